/-! The run: does the machine meet what was proved, the class's way. -/
/-- the length of the array that a value means; -1 none -/
def mLn (p : jP) (m : jM) (v : jV) : Int := if v.1 = 2 ∧ v.2 ≠ 0 ∧ tAr (mTp p m v.2) = true then (m.ext (v.2.toNat - 1) : Int) else -1
/-- what the sets of a slot tell about a local, the class's way -/
def hBc (p : jP) (m : jM) (w : jW) (v : jV) (k : Nat) : Prop := (w.2.2.2.2 k = true → (m.loc k).1 = 1 ∧ v.2 < (m.loc k).2) ∧ (w.2.2.2.2 (12 + k) = true → 0 ≤ mLn p m (m.loc k) ∧ v.2 < mLn p m (m.loc k)) ∧ (w.2.2.2.2 (24 + k) = true → 0 ≤ mLn p m (m.loc k) ∧ v.2 = mLn p m (m.loc k)) ∧ (w.2.2.2.2 (36 + k) = true → (m.loc k).1 = 1 ∧ 0 ≤ mLn p m v ∧ mLn p m v = (m.loc k).2)
/-- a value is inside of what is told -/
def hIn (m : jM) (w : jW) (v : jV) : Prop := (w.1 = 1 ∧ w.2.1.1 ≤ v.2 ∧ v.2 ≤ w.2.1.2) ∨ (w.1 = 2 ∧ w.2.2.1 (if v.2 = 0 then 62 else m.si (v.2.toNat - 1)) = true)
def hSc (p : jP) (m : jM) (w : jW) (v : jV) : Prop := w.1 = 0 ∨ (v.1 = w.1 ∧ hIn m w v ∧ (∀ k, w.2.2.2.1 = some k → m.loc k = v) ∧ ∀ k, k < 12 → hBc p m w v k)
def hOc (p : jP) (A : jA) (m : jM) : Prop := ∃ u, A (m.pc m.d) = some u ∧ ∀ k, rel (pLc p (m.pc m.d)) (m.hs m.d) k → hSc p m (u k) (m.vs m.d k)
/-- the locals of all bodies are values -/
def mLw (m : jM) : Prop := ∀ f k, f ≤ m.d → k < 12 → vWf m (m.vs f k)
section CHD
variable {p : jP} {m m' m1 : jM} {Q : Nat} {tx : List (List Int)} {x : jC} {t : Nat → Int} {inp : Nat → Int} {S S' : nk_S} {A : jA} {σ : jG} {i : Nat} {v : jV} {w : jW}
theorem lushr_n {c : Nat} (h : c < 2 ^ 63) : nk_lushr (c : Int) 32 = ((c / 2 ^ 32 : Nat) : Int) := by
  refine lb_ext (lR_ushr _ _) ?_ (fun j hj => ?_)
  · have : c / 2 ^ 32 ≤ c := Nat.div_le_self _ _
    unfold lR
    omega
  · have := lb_ushr (x := (c : Int)) (n := 32) (by omega) j
    rw [show ((32 : Nat) : Int) = 32 from rfl] at this
    rw [this, lb_n, lb_n, decide_eq_true hj, Bool.true_and, Nat.testBit_div_two_pow]
    by_cases q : 32 + j < 64
    · rw [decide_eq_true q, Bool.true_and, Nat.add_comm]
    · rw [decide_eq_false q, Bool.false_and]
      refine (Nat.testBit_lt_two_pow (Nat.lt_of_lt_of_le h (Nat.pow_le_pow_right (by decide) (by omega)))).symm
theorem mCv_k (h : vWf m v) (hn : m.n ≤ 2000) : nk_lushr (mCv v) 32 = (v.1 : Int) := by
  have key : ∀ c d : Nat, c < 2 ^ 63 → c / 2 ^ 32 = d → nk_lushr (c : Int) 32 = (d : Int) := fun c d h1 h2 => by rw [lushr_n h1, h2]
  have hc : ∃ c : Nat, mCv v = (c : Int) ∧ c < 2 ^ 63 ∧ c / 2 ^ 32 = v.1 := by
    unfold mCv
    rcases h with q | q | q
    · rw [if_neg (by omega), if_neg (by omega)]
      exact ⟨0, rfl, by decide, by rw [q.1]⟩
    · rw [if_pos q.1]
      refine ⟨(4294967296 + v.2 % 4294967296).toNat, by omega, by omega, by rw [q.1]; omega⟩
    · rw [if_neg (by omega), if_pos q.1]
      refine ⟨(8589934592 + v.2).toNat, by omega, by omega, by rw [q.1]; omega⟩
  obtain ⟨c, h1, h2, h3⟩ := hc
  rw [h1]
  exact key c _ h2 h3
theorem mCv_inj {u : jV} (h : vWf m v) (k : vWf m u) (hn : m.n ≤ 2000) : mCv v = mCv u ↔ v = u := by
  constructor
  · intro q
    have e1 := mCv_k h hn
    have e2 := mCv_n h hn
    rw [q, mCv_k k hn] at e1
    rw [q, mCv_n k hn] at e2
    exact Prod.ext (by omega) e2.symm
  · intro q; rw [q]
/-- the length of the array that a cell means -/
theorem x_lnO (hwf : pWf tx p) (hk : pKX p Q) (h : cXx S Q p A σ) (hT : hTy p m) (hc : cMm S m) (hv : vWf m v) : ja_X2_lengthOf 113 (mCv v) S = some (mLn p m v, S) := by
  unfold ja_X2_lengthOf ja_X2_lengthOf_b33 ja_X2_lengthOf_b34
  rw [mCv_n hv hT.2.1, lt_eq, mCv_k hv hT.2.1, if_pos rfl]
  unfold mLn
  by_cases c : v.1 = 2
  · rw [if_pos (by omega)]
    by_cases c0 : v.2 = 0
    · rw [if_pos c0, if_neg (fun q => q.2.1 c0)]
    · have k2 := wf_2 hv c
      obtain ⟨o, hoo⟩ : ∃ o : Nat, v.2 = ((o + 1 : Nat) : Int) := ⟨v.2.toNat - 1, by omega⟩
      have eo : v.2.toNat - 1 = o := by omega
      obtain ⟨z1, z2, z3, z4, z5⟩ := x_typ hwf hk h hT hc (o := o) (by omega)
      rw [if_neg c0]
      have e1 : ja_X2_typeOf 113 v.2 S = some (sTp p.2.2.2.2.1 (m.si o), S) := by rw [hoo]; exact z1
      have e2 : ja_X2_extentOf 113 v.2 S = some ((m.ext o : Int), S) := by rw [hoo]; exact x_ext hT hc (by omega)
      have e3 : mTp p m v.2 = sTp p.2.2.2.2.1 (m.si o) := by unfold mTp; rw [eo]
      have hl1 : p.2.1.length ≤ 32 := by have := hwf.1.2.1; have := hwf.1.2.2.2.1; omega
      rw [e1, bd_some, c_arrQ (by unfold tV at z2; omega), bd_some, e3, eo]
      cases ha : tAr (sTp p.2.2.2.2.1 (m.si o)) with
      | false => rw [if_pos (show bi false = 0 from rfl), if_pos rfl, if_neg (fun (q : v.1 = 2 ∧ v.2 ≠ 0 ∧ false = true) => by cases q.2.2)]
      | true => rw [if_neg (show ¬ bi true = 0 by decide), if_neg (by decide), e2, bd_some, if_pos ⟨c, c0, rfl⟩]
  · rw [if_neg (by omega), if_neg (fun q => c q.1)]
/-- a bit of the facts -/
theorem f_bit {f : Int} (h : cV f (fBt w)) {j : Nat} (hj : j < 48) : nk_land (nk_lushr f (j : Int)) 1 = bi (w.2.2.2.2 j) := by
  have hh : lb f j = w.2.2.2.2 j := by
    rw [h.2 j (by omega)]
    unfold fBt
    rw [if_pos hj]
  have e1 : ∀ q, lb 1 q = decide (q = 0) := fun q => by
    have := lb_n 1 q
    rw [show ((1 : Nat) : Int) = 1 from rfl] at this
    rw [this]
    by_cases c : q = 0
    · rw [c]; rfl
    · rw [decide_eq_false c]
      cases q with
      | zero => exact absurd rfl c
      | succ q => rw [Nat.testBit_succ]; simp
  refine lb_ext (lR_and _ _) (by cases w.2.2.2.2 j <;> (unfold lR bi; dsimp only; omega)) (fun q hq => ?_)
  rw [lb_and, lb_ushr (by omega), e1]
  by_cases c : q = 0
  · rw [c, decide_eq_true rfl, Bool.and_true, Nat.add_zero, hh]
    cases w.2.2.2.2 j with
    | true => show true = lb 1 0; rw [e1]; rfl
    | false => show false = lb 0 0; have := lb_n 0 0; rw [show ((0 : Nat) : Int) = 0 from rfl] at this; rw [this]; rfl
  · rw [decide_eq_false c, Bool.and_false]
    cases w.2.2.2.2 j with
    | true => show false = lb 1 q; rw [e1, decide_eq_false c]
    | false => show false = lb 0 q; have := lb_n 0 q; rw [show ((0 : Nat) : Int) = 0 from rfl] at this; rw [this, Nat.zero_testBit, Bool.and_false]
theorem f_bit2 {f : Int} (h : cV f (fBt w)) {j : Nat} (c : Nat) (hj : j + c < 48) (hc : c < 48) : nk_land (nk_lushr (nk_lushr f (j : Int)) (c : Int)) 1 = bi (w.2.2.2.2 (c + j)) := by
  have : nk_lushr (nk_lushr f (j : Int)) (c : Int) = nk_lushr f ((j + c : Nat) : Int) := lb_ext (lR_ushr _ _) (lR_ushr _ _) (fun q _ => by rw [lb_ushr (by omega), lb_ushr (by omega), lb_ushr (by omega), Nat.add_assoc])
  rw [this, f_bit h hj, Nat.add_comm]
end CHD
section CHE
variable {p : jP} {m m' m1 : jM} {Q : Nat} {tx : List (List Int)} {x : jC} {t : Nat → Int} {inp : Nat → Int} {S S' : nk_S} {A : jA} {σ : jG} {i : Nat} {v : jV} {w : jW}
/-- the sets hold -/
theorem x_sL (hwf : pWf tx p) (hk : pKX p Q) (h : cXx S Q p A σ) (hT : hTy p m) (hc : cMm S m) (hl : mLw m) {f : Int} (hf : cV f (fBt w)) : ∀ (n k g : Nat), n + k = 12 → n < g → ∃ b : Bool, ja_X2_areSetsAsProved_L14 g 113 f v.2 (mLn p m v) (k : Int) S = some (bi b, S) ∧ (b = true ↔ ∀ j, k ≤ j → j < 12 → hBc p m w v j) := by
  have h5 := hc.1.1.1
  have hd := hc.1.1.2
  intro n
  induction n with
  | zero =>
    intro k g h1 h2
    obtain ⟨g, rfl⟩ : ∃ q, g = q + 1 := ⟨g - 1, by omega⟩
    refine ⟨true, ?_, ⟨fun _ j a b => by omega, fun _ => rfl⟩⟩
    rw [ja_X2_areSetsAsProved_L14]
    unfold ja_X2_areSetsAsProved_b14
    rw [if_pos (by omega)]
    rfl
  | succ n ih =>
    intro k g h1 h2
    obtain ⟨g, rfl⟩ : ∃ q, g = q + 1 := ⟨g - 1, by omega⟩
    obtain ⟨b, r1, r2⟩ := ih (k + 1) g (by omega) (by omega)
    obtain ⟨R, hR⟩ : ∃ R, R = ja_X2_areSetsAsProved_L14 g 113 f v.2 (mLn p m v) ((k + 1 : Nat) : Int) S := ⟨_, rfl⟩
    have hu := hl m.d k (Nat.le_refl _) (by omega)
    obtain ⟨u, eu⟩ : ∃ u, u = m.vs m.d k := ⟨_, rfl⟩
    have eu2 : m.loc k = u := eu.symm
    rw [← eu] at hu
    have hcell : S.1 114 (m.d * 20 + k) = mCv u := by rw [eu]; exact hc.1.2.2 m.d k (Nat.le_refl _) (Or.inl (by omega))
    have eix : ∀ _ : Unit, nk_w (nk_w ((m.d : Int) * 20) + (k : Int)) = ((m.d * 20 + k : Nat) : Int) := fun _ => by
      rw [nk_w_id (z := (m.d : Int) * 20) (by omega) (by omega), nk_w_id (by omega) (by omega)]
      omega
    have e0 := f_bit hf (j := k) (by omega)
    have e12 : nk_land (nk_lushr (nk_lushr f (k : Int)) 12) 1 = bi (w.2.2.2.2 (12 + k)) := f_bit2 hf 12 (by omega) (by omega)
    have e24 : nk_land (nk_lushr (nk_lushr f (k : Int)) 24) 1 = bi (w.2.2.2.2 (24 + k)) := f_bit2 hf 24 (by omega) (by omega)
    have e36 : nk_land (nk_lushr (nk_lushr f (k : Int)) 36) 1 = bi (w.2.2.2.2 (36 + k)) := f_bit2 hf 36 (by omega) (by omega)
    have h168 : ja_X2_areSetsAsProved_b173 (ja_X2_areSetsAsProved_L14 g) 113 f v.2 (mLn p m v) (k : Int) S = R := by
      unfold ja_X2_areSetsAsProved_b173 ja_X2_areSetsAsProved_b174
      rw [if_pos rfl, w_nat1 (by omega), lt_eq, hR]
    have h164 : ja_X2_areSetsAsProved_b169 (ja_X2_areSetsAsProved_L14 g) 113 f v.2 (mLn p m v) (k : Int) S = some (0, S) := by
      unfold ja_X2_areSetsAsProved_b169 ja_X2_areSetsAsProved_b174
      rw [if_neg (by decide)]
    have key : ∀ s0 : Int, (s0 = 0 ↔ u.1 ≠ 1) → (hBc p m w v k → ja_X2_areSetsAsProved_b53 (ja_X2_areSetsAsProved_L14 g) 113 f v.2 (mLn p m v) (k : Int) (mCv u) s0 S = R) ∧ (¬ hBc p m w v k → ja_X2_areSetsAsProved_b53 (ja_X2_areSetsAsProved_L14 g) 113 f v.2 (mLn p m v) (k : Int) (mCv u) s0 S = some (0, S)) := by
      intro s0 hs0
      have st4 : ((w.2.2.2.2 (36 + k) = true → u.1 = 1 ∧ 0 ≤ mLn p m v ∧ mLn p m v = u.2) → ja_X2_areSetsAsProved_b139 (ja_X2_areSetsAsProved_L14 g) 113 f v.2 (mLn p m v) (k : Int) (mCv u) s0 (nk_lushr f (k : Int)) S = R) ∧ (¬ (w.2.2.2.2 (36 + k) = true → u.1 = 1 ∧ 0 ≤ mLn p m v ∧ mLn p m v = u.2) → ja_X2_areSetsAsProved_b139 (ja_X2_areSetsAsProved_L14 g) 113 f v.2 (mLn p m v) (k : Int) (mCv u) s0 (nk_lushr f (k : Int)) S = some (0, S)) := by
        unfold ja_X2_areSetsAsProved_b139
        rw [e36, h168, h164, mCv_n hu hT.2.1]
        cases w.2.2.2.2 (36 + k) with
        | false =>
          rw [if_pos (show bi false = 0 from rfl)]
          exact ⟨fun _ => rfl, fun q => absurd (fun q2 => by cases q2) q⟩
        | true =>
          rw [if_neg (show ¬ bi true = 0 by decide)]
          refine ⟨fun q => ?_, fun q => ?_⟩
          · obtain ⟨q1, q2, q3⟩ := q rfl
            rw [if_neg (fun z => hs0.mp z q1), if_neg (by omega), if_pos q3]
          · by_cases c1 : s0 = 0
            · rw [if_pos c1]
            · rw [if_neg c1]
              by_cases c2 : mLn p m v < 0
              · rw [if_pos c2]
              · rw [if_neg c2]
                by_cases c3 : mLn p m v = u.2
                · exact absurd (fun _ => ⟨Decidable.byContradiction (fun z => c1 (hs0.mpr z)), by omega, c3⟩) q
                · rw [if_neg c3]
      have st3 : ((w.2.2.2.2 (24 + k) = true → 0 ≤ mLn p m u ∧ v.2 = mLn p m u) → ja_X2_areSetsAsProved_b115 (ja_X2_areSetsAsProved_L14 g) 113 f v.2 (mLn p m v) (k : Int) (mCv u) s0 (mLn p m u) (nk_lushr f (k : Int)) S = ja_X2_areSetsAsProved_b139 (ja_X2_areSetsAsProved_L14 g) 113 f v.2 (mLn p m v) (k : Int) (mCv u) s0 (nk_lushr f (k : Int)) S) ∧ (¬ (w.2.2.2.2 (24 + k) = true → 0 ≤ mLn p m u ∧ v.2 = mLn p m u) → ja_X2_areSetsAsProved_b115 (ja_X2_areSetsAsProved_L14 g) 113 f v.2 (mLn p m v) (k : Int) (mCv u) s0 (mLn p m u) (nk_lushr f (k : Int)) S = some (0, S)) := by
        unfold ja_X2_areSetsAsProved_b115
        rw [e24, h164]
        cases w.2.2.2.2 (24 + k) with
        | false =>
          rw [if_pos (show bi false = 0 from rfl)]
          exact ⟨fun _ => rfl, fun q => absurd (fun q2 => by cases q2) q⟩
        | true =>
          rw [if_neg (show ¬ bi true = 0 by decide)]
          refine ⟨fun q => ?_, fun q => ?_⟩
          · obtain ⟨q1, q2⟩ := q rfl
            rw [if_neg (by omega), if_pos q2]
          · by_cases c1 : mLn p m u < 0
            · rw [if_pos c1]
            · rw [if_neg c1, if_neg (fun z => q (fun _ => ⟨by omega, z⟩))]
      have st2 : ((w.2.2.2.2 (12 + k) = true → 0 ≤ mLn p m u ∧ v.2 < mLn p m u) → ja_X2_areSetsAsProved_b91 (ja_X2_areSetsAsProved_L14 g) 113 f v.2 (mLn p m v) (k : Int) (mCv u) s0 (mLn p m u) (nk_lushr f (k : Int)) S = ja_X2_areSetsAsProved_b115 (ja_X2_areSetsAsProved_L14 g) 113 f v.2 (mLn p m v) (k : Int) (mCv u) s0 (mLn p m u) (nk_lushr f (k : Int)) S) ∧ (¬ (w.2.2.2.2 (12 + k) = true → 0 ≤ mLn p m u ∧ v.2 < mLn p m u) → ja_X2_areSetsAsProved_b91 (ja_X2_areSetsAsProved_L14 g) 113 f v.2 (mLn p m v) (k : Int) (mCv u) s0 (mLn p m u) (nk_lushr f (k : Int)) S = some (0, S)) := by
        unfold ja_X2_areSetsAsProved_b91
        rw [e12, h164]
        cases w.2.2.2.2 (12 + k) with
        | false =>
          rw [if_pos (show bi false = 0 from rfl)]
          exact ⟨fun _ => rfl, fun q => absurd (fun q2 => by cases q2) q⟩
        | true =>
          rw [if_neg (show ¬ bi true = 0 by decide)]
          refine ⟨fun q => ?_, fun q => ?_⟩
          · obtain ⟨q1, q2⟩ := q rfl
            rw [if_neg (by omega), if_neg (by omega)]
          · by_cases c1 : mLn p m u < 0
            · rw [if_pos c1]
            · rw [if_neg c1, if_pos]
              by_cases c2 : mLn p m u ≤ v.2
              · exact c2
              · exact absurd (fun _ => ⟨by omega, by omega⟩) q
      have st1 : ((w.2.2.2.2 k = true → u.1 = 1 ∧ v.2 < u.2) → ja_X2_areSetsAsProved_b53 (ja_X2_areSetsAsProved_L14 g) 113 f v.2 (mLn p m v) (k : Int) (mCv u) s0 S = ja_X2_areSetsAsProved_b91 (ja_X2_areSetsAsProved_L14 g) 113 f v.2 (mLn p m v) (k : Int) (mCv u) s0 (mLn p m u) (nk_lushr f (k : Int)) S) ∧ (¬ (w.2.2.2.2 k = true → u.1 = 1 ∧ v.2 < u.2) → ja_X2_areSetsAsProved_b53 (ja_X2_areSetsAsProved_L14 g) 113 f v.2 (mLn p m v) (k : Int) (mCv u) s0 S = some (0, S)) := by
        unfold ja_X2_areSetsAsProved_b53
        rw [x_lnO hwf hk h hT hc hu, bd_some, lt_eq, e0, h164, mCv_n hu hT.2.1]
        cases w.2.2.2.2 k with
        | false =>
          rw [if_pos (show bi false = 0 from rfl)]
          exact ⟨fun _ => rfl, fun q => absurd (fun q2 => by cases q2) q⟩
        | true =>
          rw [if_neg (show ¬ bi true = 0 by decide)]
          refine ⟨fun q => ?_, fun q => ?_⟩
          · obtain ⟨q1, q2⟩ := q rfl
            rw [if_neg (fun z => hs0.mp z q1), if_neg (by omega)]
          · by_cases c1 : s0 = 0
            · rw [if_pos c1]
            · rw [if_neg c1, if_pos]
              by_cases c2 : u.2 ≤ v.2
              · exact c2
              · exact absurd (fun _ => ⟨Decidable.byContradiction (fun z => c1 (hs0.mpr z)), by omega⟩) q
      unfold hBc
      rw [eu2]
      refine ⟨fun ⟨q1, q2, q3, q4⟩ => by rw [st1.1 q1, st2.1 q2, st3.1 q3, st4.1 q4], fun q => ?_⟩
      by_cases c1 : w.2.2.2.2 k = true → u.1 = 1 ∧ v.2 < u.2
      · rw [st1.1 c1]
        by_cases c2 : w.2.2.2.2 (12 + k) = true → 0 ≤ mLn p m u ∧ v.2 < mLn p m u
        · rw [st2.1 c2]
          by_cases c3 : w.2.2.2.2 (24 + k) = true → 0 ≤ mLn p m u ∧ v.2 = mLn p m u
          · rw [st3.1 c3]
            exact st4.2 (fun c4 => q ⟨c1, c2, c3, c4⟩)
          · exact st3.2 c3
        · exact st2.2 c2
      · exact st1.2 c1
    have hbody : (hBc p m w v k → ja_X2_areSetsAsProved_L14 (g + 1) 113 f v.2 (mLn p m v) (k : Int) S = R) ∧ (¬ hBc p m w v k → ja_X2_areSetsAsProved_L14 (g + 1) 113 f v.2 (mLn p m v) (k : Int) S = some (0, S)) := by
      rw [ja_X2_areSetsAsProved_L14]
      unfold ja_X2_areSetsAsProved_b14
      rw [if_neg (by omega), h5, eix (), if_pos (in_i (N := 1280) (by omega)), lt_eq, jc_113_2, Int.toNat_natCast, hcell, mCv_k hu hT.2.1]
      by_cases c : u.1 = 1
      · rw [if_pos (by omega)]
        exact key 1 ⟨fun q => absurd q (by decide), fun q => absurd c q⟩
      · rw [if_neg (by omega)]
        exact key 0 ⟨fun _ => c, fun _ => rfl⟩
    by_cases cb : hBc p m w v k
    · refine ⟨b, by rw [hbody.1 cb, hR, r1], ?_⟩
      rw [r2]
      constructor
      · intro q j a1 a2
        by_cases e : j = k
        · rw [e]; exact cb
        · exact q j (by omega) a2
      · intro q j a1 a2
        exact q j (by omega) a2
    · exact ⟨false, by rw [hbody.2 cb]; rfl, ⟨fun q => absurd q (by decide), fun q => absurd (q k (Nat.le_refl _) (by omega)) cb⟩⟩
theorem x_sets (hwf : pWf tx p) (hk : pKX p Q) (h : cXx S Q p A σ) (hT : hTy p m) (hc : cMm S m) (hl : mLw m) {f : Int} (hf : cV f (fBt w)) (hv : vWf m v) : ∃ b : Bool, ja_X2_areSetsAsProved 113 f (mCv v) S = some (bi b, S) ∧ (b = true ↔ ∀ j, j < 12 → hBc p m w v j) := by
  obtain ⟨bm, hbm⟩ := big_ge 100 (by decide)
  obtain ⟨b, r1, r2⟩ := x_sL (v := v) hwf hk h hT hc hl hf 12 0 nk_big rfl (by omega)
  refine ⟨b, ?_, by rw [r2]; exact ⟨fun q j a => q j (Nat.zero_le _) a, fun q j _ a => q j a⟩⟩
  unfold ja_X2_areSetsAsProved
  rw [mCv_n hv hT.2.1, lt_eq, x_lnO hwf hk h hT hc hv, bd_some]
  exact r1
theorem f_sets {f : Int} (hf : cV f (fBt w)) : nk_land f 281474976710655 = 0 ↔ ∀ j, j < 48 → w.2.2.2.2 j = false := by
  have lk : ∀ j, j < 64 → lb 281474976710655 j = decide (j < 48) := by decide +kernel
  rw [cV_z (cV_and hf (⟨by unfold lR; decide, lk⟩ : cV 281474976710655 (fun j => decide (j < 48))))]
  unfold sAnd fBt
  dsimp only
  constructor
  · intro q j hj
    have := q j (by omega)
    rw [if_pos hj, decide_eq_true hj, Bool.and_true] at this
    exact this
  · intro q j hj
    by_cases c : j < 48
    · rw [if_pos c, q j c, Bool.false_and]
    · rw [decide_eq_false c, Bool.and_false]
theorem f_kind {f : Int} (hf : cV f (fBt w)) : nk_land f 13510798882111488 = 0 ↔ w.1 ≠ 1 ∧ w.1 ≠ 2 := by
  rw [cV_z (cV_and hf (⟨by unfold lR; decide, lk_kd⟩ : cV 13510798882111488 (fun j => decide (j = 52) || decide (j = 53))))]
  unfold sAnd
  dsimp only
  constructor
  · intro q
    have a := q 52 (by decide)
    have b := q 53 (by decide)
    rw [fBt_k.1] at a
    rw [fBt_k.2] at b
    have a : (decide (w.1 = 1) && true) = false := a
    have b : (decide (w.1 = 2) && true) = false := b
    rw [Bool.and_true] at a b
    exact ⟨of_decide_eq_false a, of_decide_eq_false b⟩
  · intro ⟨q1, q2⟩ j hj
    by_cases c : j = 52
    · rw [c, fBt_k.1, decide_eq_false q1, Bool.false_and]
    · by_cases c2 : j = 53
      · rw [c2, fBt_k.2, decide_eq_false q2, Bool.false_and]
      · rw [decide_eq_false c, decide_eq_false c2]; exact Bool.and_false _
/-- a slot holds -/
theorem x_slotH (hwf : pWf tx p) (hk : pKX p Q) (h : cXx S Q p A σ) (hT : hTy p m) (hc : cMm S m) (hl : mLw m) {j : Nat} (hj : j < 20480) (hs : cSt (S.1 94 j) (S.1 95 j) w) (hw : wOk (pFF p) w) (hv : vWf m v) : ∃ b : Bool, ja_X2_isSlotAsProved 113 (j : Int) (mCv v) S = some (bi b, S) ∧ (b = true ↔ hSc p m w v) := by
  have j95 : ja_c (ja_c (ja_c 113 0) 2) 1 = 95 := rfl
  have j94 : ja_c (ja_c (ja_c 113 0) 2) 0 = 94 := rfl
  obtain ⟨f, ef⟩ : ∃ f, f = S.1 95 j := ⟨_, rfl⟩
  obtain ⟨a, ea⟩ : ∃ a, a = S.1 94 j := ⟨_, rfl⟩
  rw [← ef, ← ea] at hs
  obtain ⟨s1, s2, s3, s4⟩ := hs
  have h5 := hc.1.1.1
  have hd := hc.1.1.2
  have hn := hT.2.1
  -- sets and copy
  obtain ⟨bs, t1, t2⟩ := x_sets hwf hk h hT hc hl s1 hv
  have tail : ∀ (l10 : Int) (P : Prop), (l10 = 0 ∧ ¬ P) ∨ (l10 = 1 ∧ P) → ∃ b : Bool, ja_X2_isSlotAsProved_b165 113 (mCv v) f l10 S = some (bi b, S) ∧ (b = true ↔ P ∧ (∀ k, w.2.2.2.1 = some k → m.loc k = v) ∧ ∀ k, k < 12 → hBc p m w v k) := by
    intro l10 P hP
    have b202 : ∀ s0 : Int, ∀ C : Prop, (s0 = 0 ∧ ¬ C) ∨ (s0 = 1 ∧ C) → ∃ b : Bool, ja_X2_isSlotAsProved_b202 113 (mCv v) f l10 s0 S = some (bi b, S) ∧ (b = true ↔ P ∧ C ∧ ∀ k, k < 12 → hBc p m w v k) := by
      intro s0 C hC
      unfold ja_X2_isSlotAsProved_b202
      rcases hP with ⟨e1, e2⟩ | ⟨e1, e2⟩
      · rw [if_pos e1]
        exact ⟨false, rfl, ⟨fun q => absurd q (by decide), fun q => absurd q.1 e2⟩⟩
      rw [if_neg (by omega)]
      rcases hC with ⟨e3, e4⟩ | ⟨e3, e4⟩
      · rw [if_pos e3]
        exact ⟨false, rfl, ⟨fun q => absurd q (by decide), fun q => absurd q.2.1 e4⟩⟩
      rw [if_neg (by omega)]
      by_cases cz : nk_land f 281474976710655 = 0
      · rw [if_pos cz]
        have hz := (f_sets s1).mp cz
        refine ⟨true, rfl, ⟨fun _ => ⟨e2, e4, fun k hk' => ⟨fun q => ?_, fun q => ?_, fun q => ?_, fun q => ?_⟩⟩, fun _ => rfl⟩⟩
        · rw [hz k (by omega)] at q; cases q
        · rw [hz (12 + k) (by omega)] at q; cases q
        · rw [hz (24 + k) (by omega)] at q; cases q
        · rw [hz (36 + k) (by omega)] at q; cases q
      · rw [if_neg cz, t1, bd_some]
        refine ⟨bs, ?_, by rw [t2]; exact ⟨fun q => ⟨e2, e4, q⟩, fun q => q.2.2⟩⟩
        cases bs with
        | false => rw [if_pos (show bi false = 0 from rfl)]; rfl
        | true => rw [if_neg (show ¬ bi true = 0 by decide)]; rfl
    unfold ja_X2_isSlotAsProved_b165 ja_X2_isSlotAsProved_b197
    rw [c_copy hw.1 s1, bd_some]
    cases hcp : w.2.2.2.1 with
    | none =>
      rw [if_pos (show ((oN (none : Option Nat) : Nat) : Int) - 1 < 0 by decide)]
      exact b202 1 _ (Or.inr ⟨rfl, fun k q => by cases q⟩)
    | some k =>
      have hk12 := hw.1 k hcp
      have eo : ((oN (some k) : Nat) : Int) - 1 = (k : Int) := by
        show ((k + 1 : Nat) : Int) - 1 = _
        omega
      have eix : ∀ _ : Unit, nk_w (nk_w ((m.d : Int) * 20) + (k : Int)) = ((m.d * 20 + k : Nat) : Int) := fun _ => by
        rw [nk_w_id (z := (m.d : Int) * 20) (by omega) (by omega), nk_w_id (by omega) (by omega)]
        omega
      have hcell : S.1 114 (m.d * 20 + k) = mCv (m.loc k) := hc.1.2.2 m.d k (Nat.le_refl _) (Or.inl hk12)
      have hin := mCv_inj (hl m.d k (Nat.le_refl _) hk12) hv hn
      rw [eo, if_neg (by omega), h5, eix (), if_pos (in_i (N := 1280) (by omega)), jc_113_2, Int.toNat_natCast, hcell]
      by_cases ce : mCv (m.loc k) = mCv v
      · rw [if_pos ce]
        refine b202 1 _ (Or.inr ⟨rfl, fun k' q => ?_⟩)
        cases q
        exact hin.mp ce
      · rw [if_neg ce]
        exact b202 0 _ (Or.inl ⟨rfl, fun q => ce (hin.mpr (q k rfl))⟩)
  -- the kind
  unfold ja_X2_isSlotAsProved ja_X2_isSlotAsProved_b57
  rw [if_pos (in_i (N := 20480) (by omega)), j95, j94, Int.toNat_natCast, ← ef, ← ea, lt_eq, lt_eq, mCv_n hv hn, mCv_k hv hn, lt_eq, lt_eq]
  have hwk := wOk_k2 hw
  by_cases ck : nk_land f 13510798882111488 = 0
  · rw [if_pos ck]
    have := (f_kind s1).mp ck
    exact ⟨true, rfl, ⟨fun _ => Or.inl (by omega), fun _ => rfl⟩⟩
  rw [if_neg ck]
  have ck' : ¬ (w.1 ≠ 1 ∧ w.1 ≠ 2) := fun q => ck ((f_kind s1).mpr q)
  have no : v.1 ≠ w.1 → ∃ b : Bool, (some (0, S) : Option (Int × nk_S)) = some (bi b, S) ∧ (b = true ↔ hSc p m w v) := fun q => ⟨false, rfl, ⟨fun z => absurd z (by decide), fun z => by
    rcases z with z | z
    · omega
    · exact absurd z.1 q⟩⟩
  have fin : v.1 = w.1 → ∀ (l10 : Int) (P : Prop), (l10 = 0 ∧ ¬ P) ∨ (l10 = 1 ∧ P) → (P ↔ hIn m w v) → ∃ b : Bool, ja_X2_isSlotAsProved_b165 113 (mCv v) f l10 S = some (bi b, S) ∧ (b = true ↔ hSc p m w v) := fun q l10 P h1 h2 => by
    obtain ⟨b, g1, g2⟩ := tail l10 P h1
    refine ⟨b, g1, ?_⟩
    rw [g2]
    unfold hSc
    constructor
    · intro ⟨z1, z2⟩
      exact Or.inr ⟨q, h2.mp z1, z2⟩
    · intro z
      rcases z with z | ⟨-, z1, z2⟩
      · omega
      · exact ⟨h2.mpr z1, z2⟩
  by_cases c1 : w.1 = 1
  · rw [if_neg (fun q => (g_bit s1).1.mp q c1)]
    have hir : iR2 w.2.1 := by
      rcases hw.2.2 with q | ⟨-, q, -⟩ | ⟨q, -⟩
      · rw [q] at c1; cases c1
      · exact ⟨hk.2.1.1.1 _ q.1, hk.2.1.1.1 _ q.2.1⟩
      · omega
    by_cases cv : v.1 = 1
    · rw [if_pos (by omega)]
      unfold ja_X2_isSlotAsProved_b79 ja_X2_isSlotAsProved_b122 ja_X2_isSlotAsProved_b123
      rw [if_pos rfl, mCv_k hv hn, if_neg (by omega), if_neg (by decide), s3 c1, lo_e hir, bd_some, hi_e hir, bd_some]
      by_cases d1 : v.2 < w.2.1.1
      · rw [if_pos d1]
        refine fin (by omega) 0 (hIn m w v) (Or.inl ⟨rfl, fun q => ?_⟩) Iff.rfl
        rcases q with q | q
        · omega
        · omega
      · rw [if_neg d1]
        by_cases d2 : w.2.1.2 < v.2
        · rw [if_pos d2]
          refine fin (by omega) 0 (hIn m w v) (Or.inl ⟨rfl, fun q => ?_⟩) Iff.rfl
          rcases q with q | q
          · omega
          · omega
        · rw [if_neg d2]
          exact fin (by omega) 1 (hIn m w v) (Or.inr ⟨rfl, Or.inl ⟨c1, by omega, by omega⟩⟩) Iff.rfl
    · rw [if_neg (by omega)]
      unfold ja_X2_isSlotAsProved_b79
      rw [if_neg (by decide)]
      exact no (by omega)
  · have c2 : w.1 = 2 := by omega
    rw [if_pos ((g_bit s1).1.mpr c1)]
    by_cases cv : v.1 = 1
    · rw [if_pos (by omega)]
      unfold ja_X2_isSlotAsProved_b79
      rw [if_neg (by decide)]
      exact no (by omega)
    · rw [if_neg (by omega)]
      unfold ja_X2_isSlotAsProved_b79 ja_X2_isSlotAsProved_b152 ja_X2_isSlotAsProved_b163
      rw [if_pos rfl, mCv_k hv hn]
      by_cases c0 : v.1 = 0
      · rw [if_pos (by omega)]
        exact no (by omega)
      · have cv2 : v.1 = 2 := by
          rcases hv with q | q | q <;> omega
        have k2 := wf_2 hv cv2
        have hIn2 : hIn m w v ↔ w.2.2.1 (if v.2 = 0 then 62 else m.si (v.2.toNat - 1)) = true := by
          unfold hIn
          constructor
          · intro q
            rcases q with q | q
            · omega
            · exact q.2
          · intro q
            exact Or.inr ⟨c2, q⟩
        rw [if_neg (by omega), if_pos rfl]
        by_cases d0 : v.2 = 0
        · rw [if_pos d0]
          rw [if_pos d0] at hIn2
          by_cases d1 : nk_land a 4611686018427387904 = 0
          · rw [if_pos d1]
            have := (cV_bit (s4 c2)).mp d1
            exact fin (by omega) 0 (hIn m w v) (Or.inl ⟨rfl, fun q => by rw [hIn2, this] at q; cases q⟩) Iff.rfl
          · rw [if_neg d1]
            refine fin (by omega) 1 (hIn m w v) (Or.inr ⟨rfl, hIn2.mpr ?_⟩) Iff.rfl
            cases hq : w.2.2.1 62 with
            | true => rfl
            | false => exact absurd ((cV_bit (s4 c2)).mpr hq) d1
        · rw [if_neg d0]
          rw [if_neg d0] at hIn2
          obtain ⟨o, hoo⟩ : ∃ o : Nat, v.2 = ((o + 1 : Nat) : Int) := ⟨v.2.toNat - 1, by omega⟩
          have eo : v.2.toNat - 1 = o := by omega
          rw [eo] at hIn2
          obtain ⟨z1, z2, z3, z4, z5⟩ := x_typ hwf hk h hT hc (o := o) (by omega)
          have h17 : S.1 117 o = (m.si o : Int) := hc.2.1.2.1 o (show o < m.n by omega)
          have e1 : ∀ _ : Unit, nk_w (v.2 - 1) = (o : Int) := fun _ => by rw [nk_w_id (by omega) (by omega)]; omega
          rw [e1 (), if_pos (in_i (N := 2000) (by omega)), jc_113_6, Int.toNat_natCast, h17]
          have hz : nk_land a (nk_lshl 1 (m.si o : Int)) = 0 ↔ w.2.2.1 (m.si o) = false := by
            rw [cV_z (cV_and (s4 c2) (cV_one (n := m.si o) (by omega)))]
            unfold sAnd onS
            constructor
            · intro q
              have := q (m.si o) (by omega)
              rw [decide_eq_true rfl, Bool.and_true] at this
              exact this
            · intro q j hj
              by_cases e : j = m.si o
              · rw [e, q, Bool.false_and]
              · rw [decide_eq_false e, Bool.and_false]
          by_cases d1 : nk_land a (nk_lshl 1 (m.si o : Int)) = 0
          · rw [if_pos d1]
            have := hz.mp d1
            exact fin (by omega) 0 (hIn m w v) (Or.inl ⟨rfl, fun q => by rw [hIn2, this] at q; cases q⟩) Iff.rfl
          · rw [if_neg d1]
            refine fin (by omega) 1 (hIn m w v) (Or.inr ⟨rfl, hIn2.mpr ?_⟩) Iff.rfl
            cases hq : w.2.2.1 (m.si o) with
            | true => rfl
            | false => exact absurd (hz.mpr hq) d1
end CHE
