/-! The run: does the state hold, in the reference. -/
section RHO
variable {p : jP} {m m' m1 : jM} {P Q : Nat} {tx : List (List Int)} {x : jC} {t : Nat → Int} {inp : Nat → Int} {S S' S1 : nk_S} {A : jA} {σ : jG} {i : Nat} {v : jV} {w : jW} {F : Int → Prop} {m0 : Nat}
/-- a slot holds, in the reference -/
theorem r_held (hwf : pWf tx p) (hk : pKX p Q) (hP : P = 122 ∨ P = 168) (h0 : S.2 121 0 = P) (hT : hTy p m) (hM : rMn p S m) (hl : mLw m) (hok : wOk F w) (hw : wX w) (hw2 : ∀ j, w.1 = 2 → w.2.2.2.2 j = true → 36 ≤ j) {j : Nat} (hj : j < 20480) (hs : rSo S (rSt P) j w) (hv : vWf m v) : ∃ b : Bool, ja_X13_isHeld 121 (j : Int) (rV v) S = some (bi b, S) ∧ (b = true ↔ hSc p m w v) := by
  have jP := jc_Ph hP
  obtain ⟨s0, s1, s2, s3, s4, s5, s6, s7, s8⟩ := id hs
  have s0 : S.1 (P + 28) j = (w.1 : Int) := s0
  have s1 : S.1 (P + 29) j = w.2.1.1 := s1
  have s2 : S.1 (P + 30) j = w.2.1.2 := s2
  have s3 : cV (S.1 (P + 31) j) w.2.2.1 := s3
  have s4 : S.1 (P + 32) j = cpI w.2.2.2.1 := s4
  have hn := hT.2.1
  obtain ⟨bm, hbm⟩ := big_ge 100 (by decide)
  have no : ¬ hSc p m w v → ∃ b : Bool, (some (0, S) : Option (Int × nk_S)) = some (bi b, S) ∧ (b = true ↔ hSc p m w v) := fun q => ⟨false, rfl, ⟨fun z => absurd z (by decide), fun z => absurd z q⟩⟩
  -- copy and sets
  have tail : v.1 = w.1 → w.1 ≠ 0 → hIn m w v → ∃ b : Bool, ja_X13_isHeld_b112 121 (j : Int) (rV v) P S = some (bi b, S) ∧ (b = true ↔ hSc p m w v) := by
    intro hvk hn0 hin
    obtain ⟨b, r1, r2⟩ := r_hL hwf hk hP hT hM hl hw hw2 hj hs hv hvk hin 12 0 nk_big rfl (by omega)
    have r1 : ja_X13_isHeld_L143 nk_big 121 (j : Int) (rV v) P 0 S = some (bi b, S) := r1
    unfold ja_X13_isHeld_b112
    rw [if_pos (in_i (N := 20480) (by omega)), jP.2.2.2.2.2.2.1, Int.toNat_natCast, s4]
    cases hcp : w.2.2.2.1 with
    | none =>
      rw [if_pos (show cpI none < 0 by decide)]
      refine ⟨b, r1, ?_⟩
      rw [r2]
      constructor
      · intro q
        exact Or.inr ⟨hvk, hin, (fun k z => by rw [hcp] at z; cases z), fun k hk' => q k (Nat.zero_le _) hk'⟩
      · intro q z _ a2
        rcases q with q | q
        · exact absurd q hn0
        · exact q.2.2.2 z a2
    | some k =>
      have hk12 := hok.1 k hcp
      rw [if_neg (show ¬ cpI (some k) < 0 by show ¬ ((k : Nat) : Int) < 0; omega)]
      have hlo : ja_X13_local 121 (cpI (some k)) S = some (rV (m.loc k), S) := r_loc hM hk12
      rw [hlo, bd_some]
      have hij := rV_inj (hl m.d k (Nat.le_refl _) hk12) hv hn
      by_cases ce : rV (m.loc k) = rV v
      · rw [if_pos ce]
        refine ⟨b, r1, ?_⟩
        rw [r2]
        constructor
        · intro q
          refine Or.inr ⟨hvk, hin, fun k' z => ?_, fun k hk' => q k (Nat.zero_le _) hk'⟩
          rw [hcp] at z
          cases z
          exact hij.mp ce
        · intro q z _ a2
          rcases q with q | q
          · exact absurd q hn0
          · exact q.2.2.2 z a2
      · rw [if_neg ce]
        refine no (fun q => ?_)
        rcases q with q | q
        · exact absurd q hn0
        · exact ce (hij.mpr (q.2.2.1 k hcp))
  unfold ja_X13_isHeld
  rw [if_pos (in_i (N := 20480) (by omega)), h0, jP.2.2.1, jP.2.2.2.1, jP.2.2.2.2.1, Int.toNat_natCast, s0, r_isI hv, bd_some, s1, s2]
  by_cases c0 : w.1 = 0
  · rw [if_pos (by omega)]
    exact ⟨true, rfl, ⟨fun _ => Or.inl c0, fun _ => rfl⟩⟩
  rw [if_neg (by omega)]
  by_cases c1 : w.1 = 1
  · rw [if_pos (by omega)]
    by_cases cv : v.1 = 1
    · rw [decide_eq_true cv, if_neg (show ¬ bi true = 0 by decide), rV_i cv]
      have nI : ∀ z : ¬ (w.2.1.1 ≤ v.2 ∧ v.2 ≤ w.2.1.2), ¬ hSc p m w v := fun z q => by
        rcases q with q | q
        · exact c0 q
        · rcases q.2.1 with r | r
          · exact z r.2
          · omega
      by_cases d1 : v.2 < w.2.1.1
      · rw [if_pos d1]
        exact no (nI (by omega))
      rw [if_neg d1]
      by_cases d2 : v.2 ≤ w.2.1.2
      · rw [if_pos d2]
        obtain ⟨b, t1, t2⟩ := tail (by omega) c0 (Or.inl ⟨c1, by omega, d2⟩)
        refine ⟨b, ?_, t2⟩
        unfold ja_X13_isHeld_b64
        rw [if_pos (in_i (N := 20480) (by omega)), jP.2.2.1, Int.toNat_natCast, s0, if_neg (by omega), ← rV_i cv]
        exact t1
      · rw [if_neg d2]
        exact no (nI (by omega))
    · rw [decide_eq_false cv, if_pos (show bi false = 0 from rfl)]
      refine no (fun q => ?_)
      rcases q with q | q
      · exact c0 q
      · omega
  · rw [if_neg (by omega)]
    have c2 : w.1 = 2 := by
      rcases hok.2.2 with q | q | q
      · rw [q] at c0; exact absurd rfl c0
      · exact absurd q.1 c1
      · exact q.1
    unfold ja_X13_isHeld_b64
    rw [if_pos (in_i (N := 20480) (by omega)), jP.2.2.1, Int.toNat_natCast, s0, if_pos (by omega), r_isI hv, bd_some]
    have nk : v.1 ≠ 2 → ¬ hSc p m w v := fun z q => by
      rcases q with q | q
      · exact c0 q
      · omega
    by_cases cv : v.1 = 1
    · rw [decide_eq_true cv, if_neg (show ¬ bi true = 0 by decide)]
      exact no (nk (by omega))
    rw [decide_eq_false cv, if_pos (show bi false = 0 from rfl)]
    by_cases cv0 : v.1 = 0
    · rw [if_pos (rV_0 cv0)]
      exact no (nk (by omega))
    have cv2 : v.1 = 2 := by
      rcases hv with q | q | q <;> omega
    have k2 := wf_2 hv cv2
    rw [if_neg (by rw [rV_r cv2]; omega)]
    have hIn2 : hIn m w v ↔ w.2.2.1 (if v.2 = 0 then 62 else m.si (v.2.toNat - 1)) = true := by
      unfold hIn
      constructor
      · intro q
        rcases q with q | q
        · omega
        · exact q.2
      · intro q
        exact Or.inr ⟨c2, q⟩
    have hsite : ∃ s : Nat, ja_X13_siteOf 121 (rV v) S = some ((s : Int), S) ∧ s = (if v.2 = 0 then 62 else m.si (v.2.toNat - 1)) ∧ s < 64 := by
      unfold ja_X13_siteOf
      by_cases d0 : v.2 = 0
      · rw [if_pos ((rV_n cv2).mpr d0), if_pos d0]
        exact ⟨62, rfl, rfl, by decide⟩
      · obtain ⟨o, o1, o2, o3⟩ := r_objT hv cv2 d0
        have hob : ja_X13_objectOf (rV v) S = some ((o : Int), S) := by rw [o2]; exact r_ob (by omega) S
        have h44 : S.1 244 o = (m.si o : Int) := (hM.2.1.2.2.1 o o1).2.1
        rw [if_neg (fun z => d0 ((rV_n cv2).mp z)), hob, bd_some, if_pos (in_i (N := 2000) (by omega)), jc_rm.2.2.2.2.2.1, Int.toNat_natCast, h44, if_neg d0, o3]
        refine ⟨m.si o, rfl, rfl, ?_⟩
        have := hT.2.2.2.2.1 o o1
        have c8 := (p_ctx hwf hk).2.2.2.2.2.2.2
        unfold sVd at this
        rw [Bool.or_eq_true, Bool.and_eq_true] at this
        rcases this with q | ⟨-, q⟩
        · have := of_decide_eq_true q; omega
        · have := of_decide_eq_true q; omega
    obtain ⟨s, e1, e2, e3⟩ := hsite
    rw [e1, bd_some, jP.2.2.2.2.2.1, r_bit s3 e3]
    rw [← e2] at hIn2
    cases hb : w.2.2.1 s with
    | false =>
      rw [if_pos (show bi false = 0 from rfl)]
      refine no (fun q => ?_)
      rcases q with q | q
      · exact c0 q
      · have := hIn2.mp q.2.1
        rw [hb] at this
        cases this
    | true =>
      rw [if_neg (show ¬ bi true = 0 by decide)]
      exact tail (by omega) c0 (hIn2.mpr hb)
/-- all slots hold -/
theorem r_hoL (hwf : pWf tx p) (hk : pKX p Q) (h : rXx S P p A σ) (hm : mOk p m) (ht : mTop p m x t) (hM : rMm p S m) (hl : mLw m) (hi4 : m.pc m.d < 1024) {u : Nat → jW} (hA : A (m.pc m.d) = some u) (hu : ∀ k, wOk (pFF p) (u k)) (hx : qX u) (hu2 : ∀ k j, (u k).1 = 2 → (u k).2.2.2.2 j = true → 36 ≤ j) (hu3 : ∀ k, ¬ rel (pLc p (m.pc m.d)) (m.hs m.d) k → u k = wU) (h19 : S.1 (P + 19) (m.pc m.d) = (m.hs m.d : Int)) : ∀ (n k g : Nat), n + k = 12 + m.hs m.d → n < g → ∃ b : Bool, ja_X13_holds_L39 g 121 (m.pc m.d : Int) (k : Int) S = some (bi b, S) ∧ (b = true ↔ ∀ q, k ≤ q → rel (pLc p (m.pc m.d)) (m.hs m.d) q → hSc p m (u q) (m.vs m.d q)) := by
  have jP := jc_Ph h.1
  have hd := hM.1.1.1.2
  obtain ⟨q1, q2, q3⟩ := hM.2
  have hlc : pLc p (m.pc m.d) ≤ 12 := pLc_12 hwf _
  have e12 : ∀ _ : Unit, nk_w (12 + (m.hs m.d : Int)) = ((12 + m.hs m.d : Nat) : Int) := fun _ => by rw [nk_w_id (by omega) (by omega)]; omega
  have ed : ∀ _ : Unit, nk_w (S.1 121 52 - 1) = (m.d : Int) := r_dw hM.1.1
  have hH : pH p (m.pc m.d) = m.hs m.d := ht.2.2.1.symm
  intro n
  induction n with
  | zero =>
    intro k g h1 h2
    obtain ⟨g, rfl⟩ : ∃ q, g = q + 1 := ⟨g - 1, by omega⟩
    refine ⟨true, ?_, ⟨fun _ q a b => by unfold rel at b; omega, fun _ => rfl⟩⟩
    show ja_X13_holds_b39 (ja_X13_holds_L39 g) 121 (m.pc m.d : Int) (k : Int) S = _
    unfold ja_X13_holds_b39
    rw [if_pos (in_i (N := 1024) (by omega)), h.2.1, jP.1, Int.toNat_natCast, h19, e12 (), if_pos (by omega)]
    rfl
  | succ n ih =>
    intro k g h1 h2
    obtain ⟨g, rfl⟩ : ∃ q, g = q + 1 := ⟨g - 1, by omega⟩
    obtain ⟨b, r1, r2⟩ := ih (k + 1) g (by omega) (by omega)
    have hd39 : ja_X13_holds_L39 (g + 1) 121 (m.pc m.d : Int) (k : Int) S = ja_X13_holds_b88 (ja_X13_holds_L39 g) 121 (m.pc m.d : Int) (k : Int) (rV (m.vs m.d k)) S := by
      show ja_X13_holds_b39 (ja_X13_holds_L39 g) 121 (m.pc m.d : Int) (k : Int) S = _
      unfold ja_X13_holds_b39
      rw [if_pos (in_i (N := 1024) (by omega)), h.2.1, jP.1, Int.toNat_natCast, h19, e12 (), if_neg (by omega)]
      by_cases c : k < 12
      · rw [if_neg (by omega), r_loc hM.1 c, bd_some]
        rfl
      · have e8 : ∀ _ : Unit, nk_w (nk_w (nk_w ((m.d : Int) * 8) + (k : Int)) - 12) = ((m.d * 8 + (k - 12) : Nat) : Int) := fun _ => by
          rw [nk_w_id (z := (m.d : Int) * 8) (by omega) (by omega), nk_w_id (z := (m.d : Int) * 8 + (k : Int)) (by omega) (by omega), nk_w_id (by omega) (by omega)]; omega
        have hc := q3 (k - 12) (by omega)
        rw [show 12 + (k - 12) = k by omega] at hc
        rw [if_pos (by omega), ed (), e8 (), if_pos (in_i (N := 512) (by omega)), jc_rm.2.1, Int.toNat_natCast, hc]
    have eiy : ∀ _ : Unit, nk_w (nk_w ((m.pc m.d : Int) * 20) + (k : Int)) = ((m.pc m.d * 20 + k : Nat) : Int) := fun _ => by
      rw [nk_w_id (z := (m.pc m.d : Int) * 20) (by omega) (by omega), nk_w_id (by omega) (by omega)]
      omega
    have hwv : vWf m (m.vs m.d k) := by
      by_cases c : k < 12
      · exact hl m.d k (Nat.le_refl _) c
      · exact (ht.2.2.2 k (by unfold rel; omega)).1
    have hst := h.2.2.2.2.1.2 _ u hA k (by rw [hH]; omega)
    obtain ⟨bb, g1, g2⟩ := r_held hwf hk h.1 h.2.1 hm.2.1 hM.1 hl (hu k) (hx k) (hu2 k) (j := m.pc m.d * 20 + k) (by omega) hst hwv
    rw [hd39]
    unfold ja_X13_holds_b88
    rw [eiy (), g1, bd_some]
    cases bb with
    | false =>
      rw [if_pos (show bi false = 0 from rfl)]
      refine ⟨false, rfl, ⟨fun q => absurd q (by decide), fun q => ?_⟩⟩
      have hn : ¬ hSc p m (u k) (m.vs m.d k) := fun z => absurd (g2.mpr z) (by decide)
      by_cases cr : rel (pLc p (m.pc m.d)) (m.hs m.d) k
      · exact absurd (q k (Nat.le_refl _) cr) hn
      · rw [hu3 k cr] at hn
        exact absurd (Or.inl rfl) hn
    | true =>
      rw [if_neg (show ¬ bi true = 0 by decide), w_nat1 (by omega), lt_eq]
      refine ⟨b, r1, ?_⟩
      rw [r2]
      constructor
      · intro q j a1 a2
        by_cases e : j = k
        · rw [e]; exact g2.mp rfl
        · exact q j (by omega) a2
      · intro q j a1 a2
        exact q j (by omega) a2
/-- does the state hold -/
theorem r_holds (hwf : pWf tx p) (hk : pKX p Q) (h : rXx S P p A σ) (hI : pIn (pFF p) (pZZ p) (pLc p) (pTy p) m0 A σ) (hC : ∀ i, pCl (pZZ p) (pLc p) A σ i) (hm : mOk p m) (ht : mTop p m x t) (hM : rMm p S m) (hl : mLw m) : ∃ b : Bool, ja_X13_holds 121 (m.pc m.d : Int) S = some (bi b, S) ∧ (b = true ↔ hOc p A m) := by
  obtain ⟨b1, b3, b4, b5, b8⟩ := r_at hk hm ht
  have jP := jc_Ph h.1
  have ed : ∀ _ : Unit, nk_w (S.1 121 52 - 1) = (m.d : Int) := r_dw hM.1.1
  have h27 := h.2.2.2.2.1.1 (m.pc m.d) b4
  have h19 : S.1 (P + 19) (m.pc m.d) = (m.hs m.d : Int) := by rw [h.2.2.2.1 _ t ht.2.1, ← ht.2.2.1]
  have h41 : S.1 241 m.d = (m.hs m.d : Int) := hM.2.1
  unfold ja_X13_holds
  rw [if_pos (in_i (N := 1024) (by omega)), h.2.1, jP.1, jP.2.1, Int.toNat_natCast, h27, h19, ed (), if_pos (in_i (N := 64) (by omega)), jc_rm.2.2.1, Int.toNat_natCast, h41, if_pos rfl]
  cases hA : A (m.pc m.d) with
  | none =>
    rw [if_pos (show bi (Option.isSome (none : Option (Nat → jW))) = 0 from rfl)]
    refine ⟨false, rfl, ⟨fun q => absurd q (by decide), fun ⟨u, q, _⟩ => ?_⟩⟩
    rw [hA] at q
    cases q
  | some u =>
    rw [if_neg (show ¬ bi (Option.isSome (some u)) = 0 from (by decide : ¬ bi true = 0))]
    obtain ⟨x', t', c1, c2, c3⟩ := hI.1 _ u hA
    have hX := lst_X hk.2.1 hk.2.2.2.1 hI hC hA
    obtain ⟨bm, hbm⟩ := big_ge 100 (by decide)
    obtain ⟨b, r1, r2⟩ := r_hoL hwf hk h hm ht hM hl b4 hA (fun k => c3.1.1 k) hX c3.1.2.2.2 (fun k q => c3.2 k (by rw [show zH (pZZ p) (m.pc m.d) = pH p (m.pc m.d) from rfl, ← ht.2.2.1]; exact q)) h19 (12 + m.hs m.d) 0 nk_big rfl (by omega)
    refine ⟨b, r1, ?_⟩
    rw [r2]
    constructor
    · intro q
      exact ⟨u, hA, fun k hk' => q k (Nat.zero_le _) hk'⟩
    · intro ⟨u', q1, q2⟩ k _ hk'
      rw [hA] at q1
      cases q1
      exact q2 k hk'
end RHO
