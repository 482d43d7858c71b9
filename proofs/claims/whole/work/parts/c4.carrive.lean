/-! The class brings what is known to an instruction. -/
/-- the instructions that wait -/
def cWt (S : nk_S) (W : Nat → Bool) : Prop := (∀ k, k < 16 → lR (S.1 97 k)) ∧ ∀ i, i < 1024 → lb (S.1 97 (i / 64)) (i % 64) = W i
/-- the states of all instructions -/
def cAm (H lc : Nat → Nat) (S : nk_S) (A : jA) : Prop := (∀ i, i < 1024 → S.1 96 i = bi (A i).isSome) ∧ ∀ i u, A i = some u → ∀ k, rel (lc i) (H i) k → cSt (S.1 94 (i * 20 + k)) (S.1 95 (i * 20 + k)) (u k)
/-- the row that is worked on -/
def cRw (lc h : Nat) (S : nk_S) (u : jQ) : Prop := S.1 93 6 = (lc : Int) ∧ S.1 93 7 = (h : Int) ∧ ∀ k, rel lc h k → cSt (S.1 98 k) (S.1 99 k) (u k)
theorem iand63 (x : Int) : nk_iand x 63 = x % 64 := by
  unfold nk_iand
  rw [i32_n, Int32.toBitVec_and, BitVec.toNat_and, Int32.toBitVec_ofInt, Int32.toBitVec_ofInt, BitVec.toNat_ofInt, show (BitVec.ofInt 32 63).toNat = 2 ^ 6 - 1 by decide, Nat.and_two_pow_sub_one_eq_mod, show (2 : Nat) ^ 6 = 64 by decide]
  have e : (((x % ((2 ^ 32 : Nat) : Int)).toNat % 64 : Nat) : Int) = x % 64 := by
    rw [show ((2 ^ 32 : Nat) : Int) = 4294967296 by decide]
    omega
  rw [e]
  exact Int.bmod_eq_of_le (by show -(2147483648 : Int) ≤ _; omega) (by show _ < (2147483648 : Int); omega)
theorem ishr6 {i : Nat} (h : i < 2000) : nk_ishr (i : Int) 6 = ((i / 64 : Nat) : Int) := by
  have := ishr_e (x := (i : Int)) (by unfold iR; omega) (k := 6) (by decide)
  have e : nk_ishr (i : Int) 6 = (i : Int) / ((2 ^ 6 : Nat) : Int) := this
  rw [e]
  rfl
theorem ior_b (a c : Bool) : nk_ior (bi a) (bi c) = bi (a || c) := by
  cases a <;> cases c <;> decide +kernel
theorem c_wake {S : nk_S} {W : Nat → Bool} (h : cWt S W) {i : Nat} (hi : i < 1024) : ∃ S', ja_X7_wake 93 (i : Int) S = some (0, S') ∧ S'.2 = S.2 ∧ (∀ a, a ≠ 97 → S'.1 a = S.1 a) ∧ cWt S' (fun j => if j = i then true else W j) := by
  have hone : cV (nk_lshl 1 (nk_iand (i : Int) 63)) (onS (i % 64)) := by
    rw [iand63, show (i : Int) % 64 = ((i % 64 : Nat) : Int) by omega]
    exact cV_one (by omega)
  refine ⟨nk_wi S 97 (i / 64) (nk_lor (S.1 97 (i / 64)) (nk_lshl 1 (nk_iand (i : Int) 63))), ?_, rfl, fun a ha => by rw [wi_n ha], fun k hk => ?_, fun j hj => ?_⟩
  · unfold ja_X7_wake
    rw [ishr6 (by omega), if_pos (in_i (N := 16) (by omega)), lt_eq, jc_93_3, Int.toNat_natCast]
  · rw [wi_at]
    split
    · exact lR_or _ _
    · exact h.1 k hk
  · rw [wi_at]
    dsimp only
    by_cases c : j / 64 = i / 64
    · rw [if_pos c, lb_or, ← c, h.2 j hj, hone.2 (j % 64) (by omega)]
      unfold onS
      by_cases d : j = i
      · rw [if_pos d, d, decide_eq_true rfl, Bool.or_true]
      · rw [if_neg d, decide_eq_false (by omega), Bool.or_false]
    · rw [if_neg c, if_neg (show ¬ j = i from fun d => c (by rw [d]))]
      exact h.2 j hj
section CAV
variable {F : Int → Prop} {dn up : Int → Int}
def nvW (o : Option jQ) (w : jQ) (k : Nat) : jW := match o with
  | none => w k
  | some u => wJn (u k) (w k)
theorem wJn_self {w : jW} (h : wOk F w) : wJn w w = w := by
  by_cases q : w.1 = 0
  · rw [wOk_0 h q]; rfl
  · unfold wJn
    rw [if_pos ⟨rfl, q⟩, if_pos rfl]
    have e1 : rJn w.2.1 w.2.1 = w.2.1 := by
      unfold rJn
      rw [Int.min_self, Int.max_self]
    have e2 : sOr w.2.2.1 w.2.2.1 = w.2.2.1 := by funext j; exact Bool.or_self _
    have e3 : sAnd w.2.2.2.2 w.2.2.2.2 = w.2.2.2.2 := by funext j; exact Bool.and_self _
    rw [e1, e2, e3]
theorem c_arvL (hT : thG F dn up) {j lc g : Nat} (hj : j < 1024) (hlc : lc ≤ 12) (hg : g ≤ 8) {o : Option jQ} {w : jQ} (ho : ∀ u, o = some u → ∀ k, wOk F (u k)) (hw : ∀ k, wOk F (w k)) : ∀ (d s m : Nat) (nf : Bool) (S : nk_S), S.1 93 6 = (lc : Int) → S.1 93 7 = (g : Int) → (∀ k, rel lc g k → cSt (S.1 98 k) (S.1 99 k) (w k)) → (∀ u, o = some u → ∀ k, s ≤ k → rel lc g k → cSt (S.1 94 (j * 20 + k)) (S.1 95 (j * 20 + k)) (u k)) → (o = none → nf = true) → s + d = 12 + g → d < m → ∃ T nf', ja_X7_arrive_L26 m 93 (j : Int) (bi o.isNone) (bi nf) ((j * 20 : Nat) : Int) (s : Int) S = (if nf' = true then nk_bd (ja_X7_wake 93 (j : Int) (nk_wi T 96 j 1)) (fun _ S6 => some (0, S6)) else some (0, T)) ∧ T.2 = S.2 ∧ (∀ a, a ≠ 94 → a ≠ 95 → T.1 a = S.1 a) ∧ (∀ q, ¬ (j * 20 + s ≤ q ∧ q < j * 20 + (12 + g)) → T.1 94 q = S.1 94 q ∧ T.1 95 q = S.1 95 q) ∧ (∀ k, s ≤ k → rel lc g k → cSt (T.1 94 (j * 20 + k)) (T.1 95 (j * 20 + k)) (nvW o w k)) ∧ (nf' = true ↔ nf = true ∨ ∃ u k, o = some u ∧ s ≤ k ∧ rel lc g k ∧ wJn (u k) (w k) ≠ u k) := by
  intro d
  induction d with
  | zero =>
    intro s m nf S h6 h7 h98 h94 hn h1 h2
    obtain ⟨m, rfl⟩ : ∃ q, m = q + 1 := ⟨m - 1, by omega⟩
    refine ⟨S, nf, ?_, rfl, fun _ _ _ => rfl, fun _ _ => ⟨rfl, rfl⟩, fun k a b => absurd b (by unfold rel; omega), ?_⟩
    · show ja_X7_arrive_b26 (ja_X7_arrive_L26 m) 93 (j : Int) (bi o.isNone) (bi nf) ((j * 20 : Nat) : Int) (s : Int) S = _
      unfold ja_X7_arrive_b26
      rw [h7, wi12 (by omega), if_pos (by omega)]
      cases nf with
      | false => rw [if_pos (show bi false = 0 from rfl), if_neg (by decide)]
      | true => rw [if_neg (show ¬ bi true = 0 by decide), if_pos rfl, if_pos (in_i (N := 1024) (by omega)), lt_eq, jc_93_2, Int.toNat_natCast]
    · constructor
      · intro q; exact Or.inl q
      · rintro (q | ⟨u, k, -, q1, q2, -⟩)
        · exact q
        · exact absurd q2 (by unfold rel; omega)
  | succ d ih =>
    intro s m nf S h6 h7 h98 h94 hn h1 h2
    obtain ⟨m, rfl⟩ : ∃ q, m = q + 1 := ⟨m - 1, by omega⟩
    have hs20 : s < 20 := by omega
    have i20 : (0 : Int) ≤ (s : Int) ∧ (s : Int) < 20 := in_i (N := 20) (by omega)
    have i20480 : (0 : Int) ≤ ((j * 20 + s : Nat) : Int) ∧ ((j * 20 + s : Nat) : Int) < 20480 := in_i (N := 20480) (by omega)
    -- nothing happens here
    have skip : (∀ u, o = some u → rel lc g s → wJn (u s) (w s) = u s) → (rel lc g s → o ≠ none) → ja_X7_arrive_L26 (m + 1) 93 (j : Int) (bi o.isNone) (bi nf) ((j * 20 : Nat) : Int) (s : Int) S = ja_X7_arrive_L26 m 93 (j : Int) (bi o.isNone) (bi nf) ((j * 20 : Nat) : Int) ((s + 1 : Nat) : Int) S → ∃ T nf', ja_X7_arrive_L26 (m + 1) 93 (j : Int) (bi o.isNone) (bi nf) ((j * 20 : Nat) : Int) (s : Int) S = (if nf' = true then nk_bd (ja_X7_wake 93 (j : Int) (nk_wi T 96 j 1)) (fun _ S6 => some (0, S6)) else some (0, T)) ∧ T.2 = S.2 ∧ (∀ a, a ≠ 94 → a ≠ 95 → T.1 a = S.1 a) ∧ (∀ q, ¬ (j * 20 + s ≤ q ∧ q < j * 20 + (12 + g)) → T.1 94 q = S.1 94 q ∧ T.1 95 q = S.1 95 q) ∧ (∀ k, s ≤ k → rel lc g k → cSt (T.1 94 (j * 20 + k)) (T.1 95 (j * 20 + k)) (nvW o w k)) ∧ (nf' = true ↔ nf = true ∨ ∃ u k, o = some u ∧ s ≤ k ∧ rel lc g k ∧ wJn (u k) (w k) ≠ u k) := by
      intro hsame hno hstep
      obtain ⟨T, nf', t1, t2, t3, t4, t5, t6⟩ := ih (s + 1) m nf S h6 h7 h98 (fun u hu k hk => h94 u hu k (by omega)) hn (by omega) (by omega)
      refine ⟨T, nf', by rw [hstep]; exact t1, t2, t3, fun q hq => t4 q (by omega), fun k hk hr => ?_, ?_⟩
      · by_cases c : k = s
        · subst c
          obtain ⟨a1, a2⟩ := t4 (j * 20 + k) (by omega)
          rw [a1, a2]
          cases o with
          | none => exact absurd rfl (hno hr)
          | some u =>
            show cSt _ _ (wJn (u k) (w k))
            rw [hsame u rfl hr]
            exact h94 u rfl k (Nat.le_refl _) hr
        · exact t5 k (by omega) hr
      · rw [t6]
        constructor
        · rintro (q | ⟨u, k, q1, q2, q3, q4⟩)
          · exact Or.inl q
          · exact Or.inr ⟨u, k, q1, by omega, q3, q4⟩
        · rintro (q | ⟨u, k, q1, q2, q3, q4⟩)
          · exact Or.inl q
          · by_cases c : k = s
            · subst c; exact absurd (hsame u q1 q3) q4
            · exact Or.inr ⟨u, k, q1, by omega, q3, q4⟩
    have h0 : ja_X7_arrive_L26 (m + 1) 93 (j : Int) (bi o.isNone) (bi nf) ((j * 20 : Nat) : Int) (s : Int) S = if bi o.isNone = 0 then (if S.1 98 s = S.1 94 (j * 20 + s) then (if S.1 99 s = S.1 95 (j * 20 + s) then ja_X7_arrive_b89 (ja_X7_arrive_L26 m) 93 (j : Int) (bi o.isNone) (bi nf) ((j * 20 : Nat) : Int) (s : Int) 0 S else ja_X7_arrive_b89 (ja_X7_arrive_L26 m) 93 (j : Int) (bi o.isNone) (bi nf) ((j * 20 : Nat) : Int) (s : Int) 1 S) else ja_X7_arrive_b89 (ja_X7_arrive_L26 m) 93 (j : Int) (bi o.isNone) (bi nf) ((j * 20 : Nat) : Int) (s : Int) 1 S) else ja_X7_arrive_b89 (ja_X7_arrive_L26 m) 93 (j : Int) (bi o.isNone) (bi nf) ((j * 20 : Nat) : Int) (s : Int) 1 S := by
      show ja_X7_arrive_b26 (ja_X7_arrive_L26 m) 93 (j : Int) (bi o.isNone) (bi nf) ((j * 20 : Nat) : Int) (s : Int) S = _
      unfold ja_X7_arrive_b26 ja_X7_arrive_b84
      rw [h7, wi12 (by omega), if_neg (by omega), wiadd (by omega), if_pos i20, if_pos i20480, jc_93_4, jc_93_0, jc_93_5, jc_93_1, Int.toNat_natCast, Int.toNat_natCast]
    by_cases hrel : rel lc g s
    · -- it is joined
      have e89 : ja_X7_arrive_b89 (ja_X7_arrive_L26 m) 93 (j : Int) (bi o.isNone) (bi nf) ((j * 20 : Nat) : Int) (s : Int) 1 S = nk_bd (ja_X7_joinSlot 93 ((j * 20 + s : Nat) : Int) (S.1 98 s) (S.1 99 s) (bi o.isNone) S) fun r4 S5 => ja_X7_arrive_L26 m 93 (j : Int) (bi o.isNone) (nk_ior (bi nf) r4) ((j * 20 : Nat) : Int) ((s + 1 : Nat) : Int) S5 := by
        have e112 : ja_X7_arrive_b112 (ja_X7_arrive_L26 m) 93 (j : Int) (bi o.isNone) (bi nf) ((j * 20 : Nat) : Int) (s : Int) S = nk_bd (ja_X7_joinSlot 93 ((j * 20 + s : Nat) : Int) (S.1 98 s) (S.1 99 s) (bi o.isNone) S) fun r4 S5 => ja_X7_arrive_L26 m 93 (j : Int) (bi o.isNone) (nk_ior (bi nf) r4) ((j * 20 : Nat) : Int) ((s + 1 : Nat) : Int) S5 := by
          unfold ja_X7_arrive_b112
          rw [if_pos i20, wiadd (by omega), jc_93_4, jc_93_5, Int.toNat_natCast, w_nat1 (by omega)]
          rfl
        unfold ja_X7_arrive_b89
        rw [if_neg (by decide), h6]
        by_cases c : s < lc
        · rw [if_pos (by omega)]; exact e112
        · rw [if_neg (by omega), if_neg (by unfold rel at hrel; omega)]; exact e112
      cases ho' : o with
      | none =>
        subst ho'
        have hnf := hn rfl
        subst hnf
        rw [if_neg (show ¬ bi (none : Option jQ).isNone = 0 by decide), e89, show bi (none : Option jQ).isNone = 1 from rfl, c_jfresh (by omega), bd_some, show nk_ior (bi true) 1 = bi true by decide +kernel] at h0
        obtain ⟨T, nf', t1, t2, t3, t4, t5, t6⟩ := ih (s + 1) m true (nk_wi (nk_wi S 94 (j * 20 + s) (S.1 98 s)) 95 (j * 20 + s) (S.1 99 s)) (by rw [wi_n (by decide), wi_n (by decide)]; exact h6) (by rw [wi_n (by decide), wi_n (by decide)]; exact h7) (fun k hk => by rw [wi_n (by decide), wi_n (by decide), wi_n (by decide), wi_n (by decide)]; exact h98 k hk) (fun u hu => by cases hu) (fun _ => rfl) (by omega) (by omega)
        refine ⟨T, nf', ?_, by rw [t2]; rfl, fun a x y => by rw [t3 a x y, wi_n y, wi_n x], fun q hq => ?_, fun k hk hr => ?_, ?_⟩
        · rw [show bi (none : Option jQ).isNone = 1 from rfl] at t1 ⊢
          rw [h0]; exact t1
        · obtain ⟨a1, a2⟩ := t4 q (by omega)
          rw [a1, a2, wi_n (by decide), wi_at, if_neg (by omega), wi_at, if_neg (by omega), wi_n (by decide)]
          exact ⟨rfl, rfl⟩
        · by_cases c : k = s
          · subst c
            obtain ⟨a1, a2⟩ := t4 (j * 20 + k) (by omega)
            rw [a1, a2, wi_n (by decide), wi_at, if_pos rfl, wi_at, if_pos rfl]
            exact h98 k hr
          · exact t5 k (by omega) hr
        · rw [t6]
          exact ⟨fun _ => Or.inl rfl, fun _ => Or.inl rfl⟩
      | some u =>
        subst ho'
        have hb0 : bi (some u).isNone = 0 := rfl
        rw [if_pos hb0] at h0
        have hold := h94 u rfl s (Nat.le_refl _) hrel
        have hnew := h98 s hrel
        by_cases heq : S.1 98 s = S.1 94 (j * 20 + s) ∧ S.1 99 s = S.1 95 (j * 20 + s)
        · have ew : w s = u s := cSt_inj hT (hw s) (ho u rfl s) hnew (by rw [heq.1, heq.2]; exact hold)
          rw [if_pos heq.1, if_pos heq.2] at h0
          refine skip (fun u' hu' _ => ?_) (fun _ q => by cases q) ?_
          · cases hu'
            rw [ew]; exact wJn_self (ho u rfl s)
          · rw [h0]
            unfold ja_X7_arrive_b89
            rw [if_pos rfl, lt_eq, w_nat1 (by omega)]
        · have h0' : ja_X7_arrive_L26 (m + 1) 93 (j : Int) (bi (some u).isNone) (bi nf) ((j * 20 : Nat) : Int) (s : Int) S = ja_X7_arrive_b89 (ja_X7_arrive_L26 m) 93 (j : Int) (bi (some u).isNone) (bi nf) ((j * 20 : Nat) : Int) (s : Int) 1 S := by
            rw [h0]
            by_cases q : S.1 98 s = S.1 94 (j * 20 + s)
            · rw [if_pos q, if_neg (fun r => heq ⟨q, r⟩)]
            · rw [if_neg q]
          obtain ⟨A, c, a1, a2, a3, a4, a5, a6⟩ := c_jslot hT (p := j * 20 + s) (by omega) (ho u rfl s) (hw s) hnew hold
          rw [e89, hb0, a1, bd_some, ior_b] at h0'
          obtain ⟨T, nf', t1, t2, t3, t4, t5, t6⟩ := ih (s + 1) m (nf || c) A (by rw [a3 93 (by decide) (by decide)]; exact h6) (by rw [a3 93 (by decide) (by decide)]; exact h7) (fun k hk => by rw [a3 98 (by decide) (by decide), a3 99 (by decide) (by decide)]; exact h98 k hk) (fun u' hu' k hk hr => by
            cases hu'
            obtain ⟨b1, b2⟩ := a4 (j * 20 + k) (by omega)
            rw [b1, b2]
            exact h94 u rfl k (by omega) hr) (fun q => by cases q) (by omega) (by omega)
          rw [hb0] at t1
          refine ⟨T, nf', by rw [hb0, h0']; exact t1, by rw [t2, a2], fun a x y => by rw [t3 a x y, a3 a x y], fun q hq => ?_, fun k hk hr => ?_, ?_⟩
          · obtain ⟨b1, b2⟩ := t4 q (by omega)
            obtain ⟨b3, b4⟩ := a4 q (by omega)
            rw [b1, b2, b3, b4]
            exact ⟨rfl, rfl⟩
          · by_cases ck : k = s
            · subst ck
              obtain ⟨b1, b2⟩ := t4 (j * 20 + k) (by omega)
              rw [b1, b2]
              exact a5
            · exact t5 k (by omega) hr
          · rw [t6, Bool.or_eq_true, a6]
            constructor
            · rintro ((q | q) | ⟨u', k, q1, q2, q3, q4⟩)
              · exact Or.inl q
              · exact Or.inr ⟨u, s, rfl, Nat.le_refl _, hrel, q⟩
              · exact Or.inr ⟨u', k, q1, by omega, q3, q4⟩
            · rintro (q | ⟨u', k, q1, q2, q3, q4⟩)
              · exact Or.inl (Or.inl q)
              · cases q1
                by_cases ck : k = s
                · subst ck; exact Or.inl (Or.inr q4)
                · exact Or.inr ⟨u, k, rfl, by omega, q3, q4⟩
    · refine skip (fun u _ hr => absurd hr hrel) (fun hr => absurd hr hrel) ?_
      have e89 : ∀ b : Int, b = 0 ∨ b = 1 → ja_X7_arrive_b89 (ja_X7_arrive_L26 m) 93 (j : Int) (bi o.isNone) (bi nf) ((j * 20 : Nat) : Int) (s : Int) b S = ja_X7_arrive_L26 m 93 (j : Int) (bi o.isNone) (bi nf) ((j * 20 : Nat) : Int) ((s + 1 : Nat) : Int) S := by
        intro b hb
        unfold ja_X7_arrive_b89
        rcases hb with q | q
        · rw [if_pos q, lt_eq, w_nat1 (by omega)]
        · rw [if_neg (by omega), h6, if_neg (by unfold rel at hrel; omega), if_pos (by unfold rel at hrel; omega), lt_eq, w_nat1 (by omega)]
      rw [h0, e89 0 (Or.inl rfl), e89 1 (Or.inr rfl), ite_self, ite_self, ite_self]
theorem arr_iff {l g : Nat} {A : jA} {j : Nat} {w : jQ} (hA : ∀ u, A j = some u → ∀ k, ¬ rel l g k → u k = wU) (hw : ∀ k, ¬ rel l g k → w k = wU) : aArr A j w ≠ A ↔ ((A j).isNone = true ∨ ∃ u k, A j = some u ∧ 0 ≤ k ∧ rel l g k ∧ wJn (u k) (w k) ≠ u k) := by
  constructor
  · intro hne
    cases hq : A j with
    | none => exact Or.inl rfl
    | some u =>
      right
      by_cases c : ∃ k, rel l g k ∧ wJn (u k) (w k) ≠ u k
      · obtain ⟨k, k1, k2⟩ := c
        exact ⟨u, k, rfl, Nat.zero_le _, k1, k2⟩
      · exfalso
        apply hne
        funext i
        by_cases ci : i = j
        · rw [ci, aArr_at, hq]
          dsimp only
          congr 1
          funext k
          by_cases ck : rel l g k
          · by_cases d : wJn (u k) (w k) = u k
            · exact d
            · exact absurd ⟨k, ck, d⟩ c
          · rw [hA u hq k ck, hw k ck]; rfl
        · exact aArr_ne ci
  · rintro (q | ⟨u, k, q1, -, q2, q3⟩) he
    · have := congrFun he j
      rw [aArr_at] at this
      rw [← this] at q
      cases q
    · have := congrFun he j
      rw [aArr_at, q1] at this
      have := Option.some.inj this
      exact q3 (congrFun this k)
/-- what is left of both loops: the end -/
theorem c_arvE {H lc : Nat → Nat} {j : Nat} (hj : j < 1024) (hB : ∀ i, lc i ≤ 12 ∧ H i ≤ 8) {A : jA} {W : Nat → Bool} {w : jQ} {S T : nk_S} {nf : Bool} (hA : cAm H lc S A) (hAo : ∀ u, A j = some u → ∀ k, ¬ rel (lc j) (H j) k → u k = wU) (hw : ∀ k, ¬ rel (lc j) (H j) k → w k = wU) (hWt : cWt S W) (t2 : T.2 = S.2) (t3 : ∀ a, a ≠ 94 → a ≠ 95 → T.1 a = S.1 a) (t4 : ∀ q, ¬ (j * 20 + 0 ≤ q ∧ q < j * 20 + (12 + H j)) → T.1 94 q = S.1 94 q ∧ T.1 95 q = S.1 95 q) (t5 : ∀ k, 0 ≤ k → rel (lc j) (H j) k → cSt (T.1 94 (j * 20 + k)) (T.1 95 (j * 20 + k)) (nvW (A j) w k)) (t6 : nf = true ↔ (A j).isNone = true ∨ ∃ u k, A j = some u ∧ 0 ≤ k ∧ rel (lc j) (H j) k ∧ wJn (u k) (w k) ≠ u k) : ∃ S', (if nf = true then nk_bd (ja_X7_wake 93 (j : Int) (nk_wi T 96 j 1)) (fun _ S6 => some (0, S6)) else some (0, T)) = some (0, S') ∧ S'.2 = S.2 ∧ (∀ a, a ≠ 94 → a ≠ 95 → a ≠ 96 → a ≠ 97 → S'.1 a = S.1 a) ∧ cAm H lc S' (aArr A j w) ∧ cWt S' (fun i => if i = j ∧ nf = true then true else W i) ∧ (nf = true ↔ aArr A j w ≠ A) := by
  have hiff := arr_iff (l := lc j) (g := H j) hAo hw
  have rows : ∀ i u, aArr A j w i = some u → ∀ k, rel (lc i) (H i) k → cSt (T.1 94 (i * 20 + k)) (T.1 95 (i * 20 + k)) (u k) := by
    intro i u hi k hk
    by_cases c : i = j
    · subst c
      have := t5 k (Nat.zero_le _) hk
      rw [aArr_at] at hi
      cases hq : A i with
      | none => rw [hq] at hi this; cases hi; exact this
      | some v => rw [hq] at hi this; cases hi; exact this
    · rw [aArr_ne c] at hi
      have hb := hB i
      have hb' := hB j
      obtain ⟨a1, a2⟩ := t4 (i * 20 + k) (by unfold rel at hk; omega)
      rw [a1, a2]
      exact hA.2 i u hi k hk
  cases nf with
  | false =>
    rw [if_neg (by decide)]
    have he : aArr A j w = A := by
      by_cases c : aArr A j w = A
      · exact c
      · have := t6.mpr (hiff.mp c); cases this
    refine ⟨T, rfl, t2, fun a x y _ _ => t3 a x y, ⟨fun i hi => ?_, rows⟩, ?_, ⟨(fun q => by cases q), fun q => absurd he q⟩⟩
    · rw [he, t3 96 (by decide) (by decide)]; exact hA.1 i hi
    · have : (fun i => if i = j ∧ false = true then true else W i) = W := by
        funext i
        rw [if_neg (fun q => by cases q.2)]
      rw [this]
      exact ⟨fun k hk => by rw [t3 97 (by decide) (by decide)]; exact hWt.1 k hk, fun i hi => by rw [t3 97 (by decide) (by decide)]; exact hWt.2 i hi⟩
  | true =>
    rw [if_pos rfl]
    have hWT : cWt (nk_wi T 96 j 1) W := ⟨fun k hk => by rw [wi_n (by decide), t3 97 (by decide) (by decide)]; exact hWt.1 k hk, fun i hi => by rw [wi_n (by decide), t3 97 (by decide) (by decide)]; exact hWt.2 i hi⟩
    obtain ⟨S', s1, s2, s3, s4⟩ := c_wake hWT hj
    rw [s1, bd_some]
    refine ⟨S', rfl, by rw [s2]; exact t2, fun a x y z v => by rw [s3 a v, wi_n z, t3 a x y], ⟨fun i hi => ?_, fun i u hi k hk => ?_⟩, ?_, ⟨fun _ => hiff.mpr (t6.mp rfl), fun _ => rfl⟩⟩
    · rw [s3 96 (by decide), wi_at]
      by_cases c : i = j
      · rw [if_pos c, c, aArr_at]; rfl
      · rw [if_neg c, aArr_ne c, t3 96 (by decide) (by decide)]; exact hA.1 i hi
    · rw [s3 94 (by decide), s3 95 (by decide), wi_n (by decide), wi_n (by decide)]
      exact rows i u hi k hk
    · have : (fun i => if i = j ∧ true = true then true else W i) = fun i => if i = j then true else W i := by
        funext i
        by_cases c : i = j
        · rw [if_pos ⟨c, rfl⟩, if_pos c]
        · rw [if_neg (fun q => c q.1), if_neg c]
      rw [this]; exact s4
/-- the class joins what is worked on into an instruction's state -/
theorem c_arv (hT : thG F dn up) {H lc : Nat → Nat} {j : Nat} (hj : j < 1024) (hB : ∀ i, lc i ≤ 12 ∧ H i ≤ 8) {A : jA} {W : Nat → Bool} {w : jQ} {S : nk_S} (hA : cAm H lc S A) (hAw : ∀ u, A j = some u → ∀ k, wOk F (u k)) (hAo : ∀ u, A j = some u → ∀ k, ¬ rel (lc j) (H j) k → u k = wU) (hw : ∀ k, wOk F (w k)) (hWt : cWt S W) (hr : cRw (lc j) (H j) S w) : ∃ S' c, ja_X7_arrive 93 (j : Int) S = some (0, S') ∧ S'.2 = S.2 ∧ (∀ a, a ≠ 94 → a ≠ 95 → a ≠ 96 → a ≠ 97 → S'.1 a = S.1 a) ∧ cAm H lc S' (aArr A j (qRs (lc j) (H j) w)) ∧ cWt S' (fun i => if i = j ∧ c = true then true else W i) ∧ (c = true ↔ aArr A j (qRs (lc j) (H j) w) ≠ A) := by
  obtain ⟨b1, b2⟩ := hB j
  obtain ⟨bm, hbm⟩ := big_ge 100 (by decide)
  have hw' : ∀ k, wOk F (qRs (lc j) (H j) w k) := fun k => by
    unfold qRs
    split
    · exact hw k
    · exact wU_ok
  have hwn : ∀ k, ¬ rel (lc j) (H j) k → qRs (lc j) (H j) w k = wU := fun k hk => by unfold qRs; rw [if_neg hk]
  obtain ⟨T, nf, t1, t2, t3, t4, t5, t6⟩ := c_arvL hT hj b1 b2 (o := A j) (w := qRs (lc j) (H j) w) hAw hw' (12 + H j) 0 nk_big (A j).isNone S hr.1 hr.2.1 (fun k hk => by
    have : qRs (lc j) (H j) w k = w k := by unfold qRs; rw [if_pos hk]
    rw [this]; exact hr.2.2 k hk) (fun u hu k _ hk => hA.2 j u hu k hk) (fun q => by rw [q]; rfl) (by omega) (by omega)
  obtain ⟨S', s1, s2, s3, s4, s5, s6⟩ := c_arvE hj hB hA hAo hwn hWt t2 t3 t4 t5 t6
  refine ⟨S', nf, ?_, s2, s3, s4, s5, s6⟩
  rw [← s1, ← t1]
  unfold ja_X7_arrive ja_X7_arrive_b14
  rw [if_pos (in_i (N := 1024) (by omega)), jc_93_2, Int.toNat_natCast, hA.1 j hj, lt_eq, lt_eq, wi20 hj]
  cases A j with
  | none => rw [if_pos (show bi (none : Option jQ).isSome = 0 from rfl)]; rfl
  | some u => rw [if_neg (show ¬ bi (some u).isSome = 0 from fun q => by cases q)]; rfl
end CAV
