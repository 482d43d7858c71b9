/-! The run: does the machine meet what was proved, the reference's way. -/
/-- does a value mean an array -/
def mAr (p : jP) (m : jM) (v : jV) : Bool := decide (v.1 = 2 ∧ v.2 ≠ 0) && tAr (mTp p m v.2)
section RHD
variable {p : jP} {m m' m1 : jM} {P Q : Nat} {tx : List (List Int)} {x : jC} {t : Nat → Int} {inp : Nat → Int} {S S' S1 : nk_S} {A : jA} {σ : jG} {i : Nat} {v : jV} {w : jW} {F : Int → Prop}
theorem mLn_a (h : mAr p m v = true) : mLn p m v = (m.ext (v.2.toNat - 1) : Int) ∧ v.1 = 2 ∧ v.2 ≠ 0 := by
  unfold mAr at h
  rw [Bool.and_eq_true, decide_eq_true_eq] at h
  unfold mLn
  rw [if_pos ⟨h.1.1, h.1.2, h.2⟩]
  exact ⟨rfl, h.1⟩
theorem mLn_n (h : mAr p m v = false) : mLn p m v = -1 := by
  unfold mLn
  rw [if_neg (fun q => ?_)]
  unfold mAr at h
  rw [decide_eq_true ⟨q.1, q.2.1⟩, q.2.2] at h
  cases h
theorem jc_Ph (hP : P = 122 ∨ P = 168) : ja_c P 26 = P + 19 ∧ ja_c P 34 = P + 27 ∧ ja_c P 35 = P + 28 ∧ ja_c P 36 = P + 29 ∧ ja_c P 37 = P + 30 ∧ ja_c P 38 = P + 31 ∧ ja_c P 39 = P + 32 ∧ ja_c P 40 = P + 33 ∧ ja_c P 41 = P + 34 ∧ ja_c P 42 = P + 35 ∧ ja_c P 43 = P + 36 := by
  rcases hP with e | e <;> rw [e] <;> exact ⟨rfl, rfl, rfl, rfl, rfl, rfl, rfl, rfl, rfl, rfl, rfl⟩
theorem mI_bit {x : Int} {f : Nat → Bool} {o k : Nat} (h : mI x f o) (hk : k < 12) : nk_iand (nk_ishr x (k : Int)) 1 = bi (f (o + k)) := by
  rw [ri_bit h (by omega), decide_eq_true hk, Bool.true_and]
theorem bi_1 {b : Bool} : bi b = 1 ↔ b = true := by cases b <;> decide
/-- does a value mean an array, in the reference -/
theorem r_isAv (hwf : pWf tx p) (hk : pKX p Q) (hT : hTy p m) (hH : rHp p S m.2.2.2.2.1) (hv : vWf m v) : ja_X13_isArrayValue 121 (rV v) S = some (bi (mAr p m v), S) := by
  obtain ⟨c1, c2, c3, c4, c5, c6, c7, c8⟩ := p_ctx hwf hk
  have hn := hT.2.1
  unfold ja_X13_isArrayValue mAr
  rw [r_isO hv hn, bd_some]
  by_cases c : v.1 = 2 ∧ v.2 ≠ 0
  · rw [decide_eq_true c, if_neg (show ¬ bi true = 0 by decide), Bool.true_and]
    obtain ⟨o, o1, o2, o3⟩ := r_objT hv c.1 c.2
    have h43 : S.1 243 o = rvU (sTp p.2.2.2.2.1 (m.si o)) := (hH.2.2.1 o o1).1
    have hob : ja_X13_objectOf (rV v) S = some ((o : Int), S) := by rw [o2]; exact r_ob (by omega) S
    have eT : mTp p m v.2 = sTp p.2.2.2.2.1 (m.si o) := by unfold mTp; rw [o3]
    rw [hob, bd_some, if_pos (in_i (N := 2000) (by omega)), jc_rm.2.2.2.2.1, Int.toNat_natCast, h43, m_arrT c2 (c4 _ (hT.2.2.2.2.1 o o1)).1, bd_some, eT]
    cases tAr (sTp p.2.2.2.2.1 (m.si o)) with
    | true => rw [if_neg (show ¬ bi true = 0 by decide)]; rfl
    | false => rw [if_pos (show bi false = 0 from rfl)]; rfl
  · rw [decide_eq_false c, if_pos (show bi false = 0 from rfl), Bool.false_and]; rfl
/-- what the object of an array's value is -/
theorem r_avO (hT : hTy p m) (hH : rHp p S m.2.2.2.2.1) (hv : vWf m v) (ha : mAr p m v = true) : ∃ o : Nat, o < 2000 ∧ ja_X13_objectOf (rV v) S = some ((o : Int), S) ∧ S.1 246 o = mLn p m v ∧ 0 ≤ mLn p m v ∧ mLn p m v ≤ 12000 := by
  obtain ⟨e1, e2, e3⟩ := mLn_a ha
  obtain ⟨o, o1, o2, o3⟩ := r_objT hv e2 e3
  have hn := hT.2.1
  have h46 : S.1 246 o = (m.ext o : Int) := (hH.2.2.1 o o1).2.2.2
  have hbn := ba_mono hT m.n (Nat.le_refl _) (o + 1) (by omega)
  have h12 := hT.2.2.1
  refine ⟨o, by omega, by rw [o2]; exact r_ob (by omega) S, by rw [e1, o3]; exact h46, by rw [e1]; omega, ?_⟩
  rw [e1, o3]
  unfold jM.ext
  omega
theorem rV_int (hv : vWf m v) (h : v.1 = 1) : rV v = v.2 ∧ -2147483648 ≤ v.2 ∧ v.2 ≤ 2147483647 := by
  have := wf_1 hv h
  unfold iR at this
  exact ⟨rV_i h, by omega, by omega⟩
theorem rV_big (h : v.1 ≠ 1) (hv : vWf m v) : 1099511627776 ≤ rV v := by
  rcases hv with q | q | q
  · rw [rV_0 q.1]; omega
  · exact absurd q.1 h
  · rw [rV_r q.1]; omega
/-- the sets hold, in the reference -/
theorem r_hL (hwf : pWf tx p) (hk : pKX p Q) (hP : P = 122 ∨ P = 168) (hT : hTy p m) (hM : rMn p S m) (hl : mLw m) (hw : wX w) (hw2 : ∀ j, w.1 = 2 → w.2.2.2.2 j = true → 36 ≤ j) {j : Nat} (hj : j < 20480) (hs : rSo S (rSt P) j w) (hv : vWf m v) (hvk : v.1 = w.1) (hin : hIn m w v) : ∀ (n k g : Nat), n + k = 12 → n < g → ∃ b : Bool, ja_X13_isHeld_L143 g 121 (j : Int) (rV v) P (k : Int) S = some (bi b, S) ∧ (b = true ↔ ∀ q, k ≤ q → q < 12 → hBc p m w v q) := by
  have jP := jc_Ph hP
  obtain ⟨s0, s1, s2, s3, s4, s5, s6, s7, s8⟩ := hs
  intro n
  induction n with
  | zero =>
    intro k g h1 h2
    obtain ⟨g, rfl⟩ : ∃ q, g = q + 1 := ⟨g - 1, by omega⟩
    refine ⟨true, ?_, ⟨fun _ q a b => by omega, fun _ => rfl⟩⟩
    show ja_X13_isHeld_b143 (ja_X13_isHeld_L143 g) 121 (j : Int) (rV v) P (k : Int) S = _
    unfold ja_X13_isHeld_b143
    rw [if_pos (by omega)]
    rfl
  | succ n ih =>
    intro k g h1 h2
    obtain ⟨g, rfl⟩ : ∃ q, g = q + 1 := ⟨g - 1, by omega⟩
    obtain ⟨b, r1, r2⟩ := ih (k + 1) g (by omega) (by omega)
    obtain ⟨R, hR⟩ : ∃ R, R = ja_X13_isHeld_L143 g 121 (j : Int) (rV v) P ((k + 1 : Nat) : Int) S := ⟨_, rfl⟩
    have hu := hl m.d k (Nat.le_refl _) (by omega)
    obtain ⟨u, eu⟩ : ∃ u, u = m.loc k := ⟨_, rfl⟩
    have hu : vWf m u := by rw [eu]; exact hu
    have hlo : ja_X13_local 121 (k : Int) S = some (rV u, S) := by rw [eu]; exact r_loc hM (by omega)
    have hau := r_isAv hwf hk hT hM.2.1 hu
    have hav := r_isAv hwf hk hT hM.2.1 hv
    have hk12 : k < 12 := by omega
    have e0 : nk_iand (nk_ishr (S.1 (P + 33) j) (k : Int)) 1 = bi (w.2.2.2.2 (0 + k)) := mI_bit s5 hk12
    have e12 : nk_iand (nk_ishr (S.1 (P + 34) j) (k : Int)) 1 = bi (w.2.2.2.2 (12 + k)) := mI_bit s6 hk12
    have e24 : nk_iand (nk_ishr (S.1 (P + 35) j) (k : Int)) 1 = bi (w.2.2.2.2 (24 + k)) := mI_bit s7 hk12
    have e36 : nk_iand (nk_ishr (S.1 (P + 36) j) (k : Int)) 1 = bi (w.2.2.2.2 (36 + k)) := mI_bit s8 hk12
    rw [Nat.zero_add] at e0
    have hk2 : w.2.2.2.2 k = true ∨ w.2.2.2.2 (12 + k) = true ∨ w.2.2.2.2 (24 + k) = true → v.1 ≠ 2 := fun q e => by
      rw [hvk] at e
      rcases q with q | q | q
      · have := hw2 _ e q; omega
      · have := hw2 _ e q; omega
      · have := hw2 _ e q; omega
    have hvn : v.1 ≠ 0 := by
      rcases hin with q | q <;> omega
    have hint : v.1 ≠ 2 → v.1 = 1 := fun q => by
      rcases hv with r | r | r
      · exact absurd r.1 hvn
      · exact r.1
      · exact absurd r.1 q
    -- the four sets
    have st4 : ((w.2.2.2.2 (36 + k) = true → u.1 = 1 ∧ 0 ≤ mLn p m v ∧ mLn p m v = u.2) → ja_X13_isHeld_b277 (ja_X13_isHeld_L143 g) 121 (j : Int) (rV v) P (k : Int) (rV u) S = R) ∧ (¬ (w.2.2.2.2 (36 + k) = true → u.1 = 1 ∧ 0 ≤ mLn p m v ∧ mLn p m v = u.2) → ja_X13_isHeld_b277 (ja_X13_isHeld_L143 g) 121 (j : Int) (rV v) P (k : Int) (rV u) S = some (0, S)) := by
      unfold ja_X13_isHeld_b277
      rw [if_pos (in_i (N := 20480) (by omega)), jP.2.2.2.2.2.2.2.2.2.2, Int.toNat_natCast, e36, w_nat1 (by omega), lt_eq, ← hR, hav, bd_some]
      cases h36 : w.2.2.2.2 (36 + k) with
      | false =>
        rw [if_neg (show ¬ bi false = 1 by decide)]
        exact ⟨fun _ => rfl, fun q => absurd (fun q2 => by cases q2) q⟩
      | true =>
        rw [if_pos (show bi true = 1 from rfl)]
        have hnn : rV v ≠ 1099511627776 := by
          intro q
          rcases hin with ⟨z1, z2, z3⟩ | ⟨z1, z2⟩
          · obtain ⟨y1, y2, y3⟩ := rV_int hv (by omega)
            omega
          · have := (rV_n (by omega : v.1 = 2)).mp q
            rw [if_pos this, hw.2 k hk12 h36] at z2
            cases z2
        rw [if_neg hnn]
        cases ha : mAr p m v with
        | false =>
          rw [if_pos (show bi false = 0 from rfl)]
          have := mLn_n ha
          exact ⟨fun q => by have := (q rfl).2.1; omega, fun _ => rfl⟩
        | true =>
          rw [if_neg (show ¬ bi true = 0 by decide)]
          obtain ⟨o, o1, o2, o3, o4, o5⟩ := r_avO hT hM.2.1 hv ha
          rw [o2, bd_some, if_pos (in_i (N := 2000) (by omega)), jc_rm.2.2.2.2.2.2.2.1, Int.toNat_natCast, o3, lt_eq, ← hR]
          by_cases cu : u.1 = 1
          · rw [rV_i cu]
            refine ⟨fun q => by rw [if_pos (q rfl).2.2], fun q => by rw [if_neg (fun z => q (fun _ => ⟨cu, o4, z⟩))]⟩
          · have := rV_big cu hu
            rw [if_neg (by omega)]
            exact ⟨fun q => absurd (q rfl).1 cu, fun _ => rfl⟩
    have st3 : ((w.2.2.2.2 (24 + k) = true → 0 ≤ mLn p m u ∧ v.2 = mLn p m u) → ja_X13_isHeld_b238 (ja_X13_isHeld_L143 g) 121 (j : Int) (rV v) P (k : Int) (rV u) (bi (mAr p m u)) S = ja_X13_isHeld_b277 (ja_X13_isHeld_L143 g) 121 (j : Int) (rV v) P (k : Int) (rV u) S) ∧ (¬ (w.2.2.2.2 (24 + k) = true → 0 ≤ mLn p m u ∧ v.2 = mLn p m u) → ja_X13_isHeld_b238 (ja_X13_isHeld_L143 g) 121 (j : Int) (rV v) P (k : Int) (rV u) (bi (mAr p m u)) S = some (0, S)) := by
      unfold ja_X13_isHeld_b238
      rw [if_pos (in_i (N := 20480) (by omega)), jP.2.2.2.2.2.2.2.2.2.1, Int.toNat_natCast, e24]
      cases h24 : w.2.2.2.2 (24 + k) with
      | false =>
        rw [if_neg (show ¬ bi false = 1 by decide)]
        exact ⟨fun _ => rfl, fun q => absurd (fun q2 => by cases q2) q⟩
      | true =>
        rw [if_pos (show bi true = 1 from rfl)]
        have v1 := hint (hk2 (Or.inr (Or.inr h24)))
        obtain ⟨y1, y2, y3⟩ := rV_int hv v1
        have hlow := hw.1 k hk12 h24
        have hv0 : 0 ≤ v.2 := by
          rcases hin with ⟨z1, z2, z3⟩ | ⟨z1, z2⟩
          · omega
          · omega
        cases ha : mAr p m u with
        | false =>
          rw [if_pos (show bi false = 0 from rfl)]
          have := mLn_n ha
          exact ⟨fun q => by have := (q rfl).1; omega, fun _ => rfl⟩
        | true =>
          rw [if_neg (show ¬ bi true = 0 by decide)]
          obtain ⟨o, o1, o2, o3, o4, o5⟩ := r_avO hT hM.2.1 hu ha
          rw [o2, bd_some, if_pos (in_i (N := 2000) (by omega)), jc_rm.2.2.2.2.2.2.2.1, Int.toNat_natCast, o3, y1]
          exact ⟨fun q => by rw [if_pos (q rfl).2], fun q => by rw [if_neg (fun z => q (fun _ => ⟨o4, z⟩))]⟩
    have st2 : ((w.2.2.2.2 (12 + k) = true → 0 ≤ mLn p m u ∧ v.2 < mLn p m u) → ja_X13_isHeld_b199 (ja_X13_isHeld_L143 g) 121 (j : Int) (rV v) P (k : Int) (rV u) (bi (mAr p m u)) S = ja_X13_isHeld_b238 (ja_X13_isHeld_L143 g) 121 (j : Int) (rV v) P (k : Int) (rV u) (bi (mAr p m u)) S) ∧ (¬ (w.2.2.2.2 (12 + k) = true → 0 ≤ mLn p m u ∧ v.2 < mLn p m u) → ja_X13_isHeld_b199 (ja_X13_isHeld_L143 g) 121 (j : Int) (rV v) P (k : Int) (rV u) (bi (mAr p m u)) S = some (0, S)) := by
      unfold ja_X13_isHeld_b199
      rw [if_pos (in_i (N := 20480) (by omega)), jP.2.2.2.2.2.2.2.2.1, Int.toNat_natCast, e12]
      cases h12 : w.2.2.2.2 (12 + k) with
      | false =>
        rw [if_neg (show ¬ bi false = 1 by decide)]
        exact ⟨fun _ => rfl, fun q => absurd (fun q2 => by cases q2) q⟩
      | true =>
        rw [if_pos (show bi true = 1 from rfl)]
        have v1 := hint (hk2 (Or.inr (Or.inl h12)))
        obtain ⟨y1, y2, y3⟩ := rV_int hv v1
        cases ha : mAr p m u with
        | false =>
          rw [if_pos (show bi false = 0 from rfl)]
          have := mLn_n ha
          exact ⟨fun q => by have := (q rfl).1; omega, fun _ => rfl⟩
        | true =>
          rw [if_neg (show ¬ bi true = 0 by decide)]
          obtain ⟨o, o1, o2, o3, o4, o5⟩ := r_avO hT hM.2.1 hu ha
          rw [o2, bd_some, if_pos (in_i (N := 2000) (by omega)), jc_rm.2.2.2.2.2.2.2.1, Int.toNat_natCast, o3, y1]
          exact ⟨fun q => by rw [if_pos (q rfl).2], fun q => by rw [if_neg (fun z => q (fun _ => ⟨o4, z⟩))]⟩
    have hbody : (hBc p m w v k → ja_X13_isHeld_L143 (g + 1) 121 (j : Int) (rV v) P (k : Int) S = R) ∧ (¬ hBc p m w v k → ja_X13_isHeld_L143 (g + 1) 121 (j : Int) (rV v) P (k : Int) S = some (0, S)) := by
      have st1 : ((w.2.2.2.2 k = true → u.1 = 1 ∧ v.2 < u.2) → ja_X13_isHeld_L143 (g + 1) 121 (j : Int) (rV v) P (k : Int) S = ja_X13_isHeld_b199 (ja_X13_isHeld_L143 g) 121 (j : Int) (rV v) P (k : Int) (rV u) (bi (mAr p m u)) S) ∧ (¬ (w.2.2.2.2 k = true → u.1 = 1 ∧ v.2 < u.2) → ja_X13_isHeld_L143 (g + 1) 121 (j : Int) (rV v) P (k : Int) S = some (0, S)) := by
        have hd : ja_X13_isHeld_L143 (g + 1) 121 (j : Int) (rV v) P (k : Int) S = ja_X13_isHeld_b143 (ja_X13_isHeld_L143 g) 121 (j : Int) (rV v) P (k : Int) S := rfl
        rw [hd]
        unfold ja_X13_isHeld_b143
        rw [if_neg (by omega), hlo, bd_some, hau, bd_some, if_pos (in_i (N := 20480) (by omega)), jP.2.2.2.2.2.2.2.1, Int.toNat_natCast, e0, r_isI hu, bd_some]
        cases h0 : w.2.2.2.2 k with
        | false =>
          rw [if_neg (show ¬ bi false = 1 by decide)]
          exact ⟨fun _ => rfl, fun q => absurd (fun q2 => by cases q2) q⟩
        | true =>
          rw [if_pos (show bi true = 1 from rfl)]
          have v1 := hint (hk2 (Or.inl h0))
          obtain ⟨y1, y2, y3⟩ := rV_int hv v1
          by_cases cu : u.1 = 1
          · rw [decide_eq_true cu, if_neg (show ¬ bi true = 0 by decide), rV_i cu, y1]
            exact ⟨fun q => by rw [if_pos (q rfl).2], fun q => by rw [if_neg (fun z => q (fun _ => ⟨cu, z⟩))]⟩
          · rw [decide_eq_false cu, if_pos (show bi false = 0 from rfl)]
            exact ⟨fun q => absurd (q rfl).1 cu, fun _ => rfl⟩
      unfold hBc
      rw [← eu]
      refine ⟨fun ⟨q1, q2, q3, q4⟩ => by rw [st1.1 q1, st2.1 q2, st3.1 q3, st4.1 q4], fun q => ?_⟩
      by_cases c1 : w.2.2.2.2 k = true → u.1 = 1 ∧ v.2 < u.2
      · rw [st1.1 c1]
        by_cases c2 : w.2.2.2.2 (12 + k) = true → 0 ≤ mLn p m u ∧ v.2 < mLn p m u
        · rw [st2.1 c2]
          by_cases c3 : w.2.2.2.2 (24 + k) = true → 0 ≤ mLn p m u ∧ v.2 = mLn p m u
          · rw [st3.1 c3]
            exact st4.2 (fun c4 => q ⟨c1, c2, c3, c4⟩)
          · exact st3.2 c3
        · exact st2.2 c2
      · exact st1.2 c1
    by_cases cb : hBc p m w v k
    · refine ⟨b, by rw [hbody.1 cb, hR]; exact r1, ?_⟩
      rw [r2]
      constructor
      · intro q z a1 a2
        by_cases e : z = k
        · rw [e]; exact cb
        · exact q z (by omega) a2
      · intro q z a1 a2
        exact q z (by omega) a2
    · exact ⟨false, hbody.2 cb, ⟨fun q => absurd q (by decide), fun q => absurd (q k (Nat.le_refl _) hk12) cb⟩⟩
end RHD
