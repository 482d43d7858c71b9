/-! The reference brings what is known to an instruction, whole. -/
section RBW
variable {F : Int → Prop} {S : nk_S} {P : Nat} {H lc : Nat → Nat}
/-- the states of one instruction change -/
def iFr (P j : Nat) (S S' : nk_S) : Prop := S'.2 = S.2 ∧ (∀ a, a < P + 28 ∨ P + 36 < a → S'.1 a = S.1 a) ∧ ∀ a k, (k < j * 20 ∨ j * 20 + 20 ≤ k) → S'.1 a k = S.1 a k
theorem iFr_rfl {j : Nat} : iFr P j S S := ⟨rfl, fun _ _ => rfl, fun _ _ _ => rfl⟩
theorem iFr_trans {j : Nat} {S1 S2 S3 : nk_S} (h : iFr P j S1 S2) (q : iFr P j S2 S3) : iFr P j S1 S3 := ⟨q.1.trans h.1, fun a r => (q.2.1 a r).trans (h.2.1 a r), fun a j r => (q.2.2 a j r).trans (h.2.2 a j r)⟩
theorem iFr_o {j k : Nat} {S1 S2 : nk_S} (hk : j * 20 ≤ k ∧ k < j * 20 + 20) (h : oFr P k S1 S2) : iFr P j S1 S2 := ⟨h.1, h.2.1, fun a i hi => h.2.2 a i (by omega)⟩
/-- the end of bringing -/
def rFin (P j : Nat) (mo : Bool) (S : nk_S) : nk_S := if mo = true then nk_wi (nk_wi (nk_wi S (P + 27) j 1) 238 j 1) 121 36 1 else nk_wi S (P + 27) j 1
theorem r_brN (hP : P = 122 ∨ P = 168) {j : Nat} (hj : j < 1024) (hH : H j ≤ 8) {v : jQ} (hv : ∀ k, wOk F (v k)) (hr : S.1 (P + 27) j = 0) (hh : S.1 (P + 19) j = (H j : Int)) (hw : ∀ k, k < 12 + H j → rSo S rWk k (v k)) : ∀ (d s m : Nat) (T : nk_S), s + d = 12 + H j → d < m → iFr P j S T → (∀ k, k < s → rSo T (rSt P) (j * 20 + k) (v k)) → ∃ T', ja_X13_bring_L18 m 121 P (j : Int) 1 (s : Int) T = some (0, rFin P j true T') ∧ iFr P j S T' ∧ ∀ k, k < 12 + H j → rSo T' (rSt P) (j * 20 + k) (v k) := by
  obtain ⟨-, -, -, -, -, -, -, -, -, c27, c19⟩ := jc_Ps hP
  intro d
  induction d with
  | zero =>
    intro s m T h1 h2 fr hd
    obtain ⟨m, rfl⟩ : ∃ q, m = q + 1 := ⟨m - 1, by omega⟩
    refine ⟨T, ?_, fr, fun k hk => hd k (by omega)⟩
    show ja_X13_bring_b18 _ 121 P _ _ _ _ = _
    unfold ja_X13_bring_b18
    rw [if_pos (in_i (N := 1024) (by omega)), c19, Int.toNat_natCast, fr.2.1 _ (by omega), hh, wi12 (by omega), if_pos (by omega), c27, lt_eq, if_neg (by decide), jc_121_35, lt_eq, lt_eq]
    rfl
  | succ d ih =>
    intro s m T h1 h2 fr hd
    obtain ⟨m, rfl⟩ : ∃ q, m = q + 1 := ⟨m - 1, by omega⟩
    have hidx : ∀ _ : Unit, nk_w (nk_w ((j : Int) * 20) + (s : Int)) = ((j * 20 + s : Nat) : Int) := fun _ => by
      have h2 : ((j * 20 + s : Nat) : Int) = (j : Int) * 20 + (s : Int) := by omega
      rw [h2, nk_w_id (z := (j : Int) * 20) (by omega) (by omega), nk_w_id (z := (j : Int) * 20 + (s : Int)) (by omega) (by omega)]
    have hwT : rSo T rWk s (v s) := rSo_c (fun i hi => by rw [fr.2.1 (rWk i) (by unfold rWk; omega)]) (hw s (by omega))
    obtain ⟨T1, b1, b2, b3⟩ := r_b75 (rec18 := ja_X13_bring_L18 m) hP (k := j * 20 + s) (s := s) (by omega) (by omega) (hv s) hwT (j : Int) 1
    obtain ⟨T', g1, g2⟩ := ih (s + 1) m T1 (by omega) (by omega) (iFr_trans fr (iFr_o (by omega) b2)) (fun k hk => by
      by_cases e : k = s
      · rw [e]; exact b3
      · exact rSo_c (fun i hi => b2.2.2 _ _ (by omega)) (hd k (by omega)))
    refine ⟨T', ?_, g2⟩
    show ja_X13_bring_b18 (ja_X13_bring_L18 m) 121 P _ _ _ _ = _
    unfold ja_X13_bring_b18
    rw [if_pos (in_i (N := 1024) (by omega)), c19, Int.toNat_natCast, fr.2.1 (P + 19) (by omega), hh, wi12 (by omega), if_neg (by omega), hidx (), lt_eq, c27, fr.2.1 (P + 27) (by omega), hr, if_pos rfl, b1]
    exact g1
theorem r_brS (hP : P = 122 ∨ P = 168) {j : Nat} (hj : j < 1024) (hH : H j ≤ 8) {u v : jQ} (hu : ∀ k, wOk F (u k)) (hv : ∀ k, wOk F (v k)) (hr : S.1 (P + 27) j = 1) (hh : S.1 (P + 19) j = (H j : Int)) (hw : ∀ k, k < 12 + H j → rSo S rWk k (v k)) : ∀ (d s m : Nat) (T : nk_S) (mo : Bool), s + d = 12 + H j → d < m → iFr P j S T → (∀ k, k < s → rSo T (rSt P) (j * 20 + k) (wJn (u k) (v k))) → (∀ k, s ≤ k → k < 12 + H j → rSo T (rSt P) (j * 20 + k) (u k)) → ∃ T' mo', ja_X13_bring_L18 m 121 P (j : Int) (bi mo) (s : Int) T = some (0, rFin P j mo' T') ∧ iFr P j S T' ∧ (∀ k, k < 12 + H j → rSo T' (rSt P) (j * 20 + k) (wJn (u k) (v k))) ∧ (mo' = true ↔ mo = true ∨ ∃ k, s ≤ k ∧ k < 12 + H j ∧ wJn (u k) (v k) ≠ u k) := by
  obtain ⟨-, -, -, -, -, -, -, -, -, c27, c19⟩ := jc_Ps hP
  intro d
  induction d with
  | zero =>
    intro s m T mo h1 h2 fr hd ho
    obtain ⟨m, rfl⟩ : ∃ q, m = q + 1 := ⟨m - 1, by omega⟩
    refine ⟨T, mo, ?_, fr, fun k hk => hd k (by omega), ⟨fun q => Or.inl q, fun q => q.resolve_right (fun ⟨k, k1, k2, _⟩ => by omega)⟩⟩
    show ja_X13_bring_b18 _ 121 P _ _ _ _ = _
    unfold ja_X13_bring_b18
    rw [if_pos (in_i (N := 1024) (by omega)), c19, Int.toNat_natCast, fr.2.1 _ (by omega), hh, wi12 (by omega), if_pos (by omega), c27, lt_eq]
    cases mo with
    | false => rfl
    | true =>
      rw [if_neg (show ¬ bi true = 0 by decide), jc_121_35, lt_eq, lt_eq]
      rfl
  | succ d ih =>
    intro s m T mo h1 h2 fr hd ho
    obtain ⟨m, rfl⟩ : ∃ q, m = q + 1 := ⟨m - 1, by omega⟩
    have hidx : ∀ _ : Unit, nk_w (nk_w ((j : Int) * 20) + (s : Int)) = ((j * 20 + s : Nat) : Int) := fun _ => by
      have h2 : ((j * 20 + s : Nat) : Int) = (j : Int) * 20 + (s : Int) := by omega
      rw [h2, nk_w_id (z := (j : Int) * 20) (by omega) (by omega), nk_w_id (z := (j : Int) * 20 + (s : Int)) (by omega) (by omega)]
    have es : ∀ _ : Unit, nk_w ((s : Int) + 1) = ((s + 1 : Nat) : Int) := fun _ => w_nat1 (by omega)
    have hwT : rSo T rWk s (v s) := rSo_c (fun i hi => by rw [fr.2.1 (rWk i) (by unfold rWk; omega)]) (hw s (by omega))
    obtain ⟨T1, ch, b1, b2, b3, b4⟩ := r_join hP (k := j * 20 + s) (s := s) (by omega) (by omega) (hu s) (hv s) (ho s (by omega) (by omega)) hwT
    obtain ⟨T', mo', g1, g2, g3, g4⟩ := ih (s + 1) m T1 (mo || ch) (by omega) (by omega) (iFr_trans fr (iFr_o (by omega) b2)) (fun k hk => by
      by_cases e : k = s
      · rw [e]; exact b3
      · exact rSo_c (fun i hi => b2.2.2 _ _ (by omega)) (hd k (by omega))) (fun k k1 k2 => rSo_c (fun i hi => b2.2.2 _ _ (by omega)) (ho k (by omega) k2))
    refine ⟨T', mo', ?_, g2, g3, ?_⟩
    · show ja_X13_bring_b18 (ja_X13_bring_L18 m) 121 P _ _ _ _ = _
      unfold ja_X13_bring_b18
      rw [if_pos (in_i (N := 1024) (by omega)), c19, Int.toNat_natCast, fr.2.1 (P + 19) (by omega), hh, wi12 (by omega), if_neg (by omega), hidx (), lt_eq, c27, fr.2.1 (P + 27) (by omega), hr, if_neg (by decide), b1, bd_some, es ()]
      have b66 : (mo || ch) = true → ja_X13_bring_b66 (ja_X13_bring_L18 m) 121 P (j : Int) (s : Int) T1 = some (0, rFin P j mo' T') := fun q => by
        unfold ja_X13_bring_b66
        rw [es (), lt_eq]
        rw [q] at g1
        exact g1
      cases ch with
      | true => rw [if_neg (show ¬ bi true = 0 by decide)]; exact b66 (by rw [Bool.or_true])
      | false =>
        rw [if_pos (show bi false = 0 from rfl)]
        cases mo with
        | true => rw [if_neg (show ¬ bi true = 0 by decide)]; exact b66 rfl
        | false => rw [if_pos (show bi false = 0 from rfl), lt_eq]; exact g1
    · rw [g4, Bool.or_eq_true, b4]
      constructor
      · rintro ((q | q) | ⟨k, k1, k2, k3⟩)
        · exact Or.inl q
        · exact Or.inr ⟨s, Nat.le_refl _, by omega, q⟩
        · exact Or.inr ⟨k, by omega, k2, k3⟩
      · rintro (q | ⟨k, k1, k2, k3⟩)
        · exact Or.inl (Or.inl q)
        · by_cases e : k = s
          · rw [e] at k3; exact Or.inl (Or.inr k3)
          · exact Or.inr ⟨k, by omega, k2, k3⟩
/-- what bringing may change -/
def bFr (P : Nat) (S S' : nk_S) : Prop := S'.2 = S.2 ∧ (∀ a, a < P + 27 ∨ P + 36 < a → a ≠ 238 → a ≠ 121 → S'.1 a = S.1 a) ∧ ∀ f, f ≠ 36 → S'.1 121 f = S.1 121 f
theorem r_bring {A : jA} (hHa : ∀ i u, A i = some u → H i ≤ 8) (hP : P = 122 ∨ P = 168) {j : Nat} (hj : j < 1024) (hH : H j ≤ 8) (hlc : lc j ≤ 12) {D : Nat → Bool} (hA : rAm H S P A) (hAw : aWf F H lc A) (hD : rDu S D) {v : jQ} (hv : ∀ k, wOk F (v k)) (hv0 : ∀ k, lc j ≤ k → k < 12 → v k = wU) (hh : S.1 (P + 19) j = (H j : Int)) (hw : ∀ k, k < 12 + H j → rSo S rWk k (v k)) : ∃ S' c, ja_X13_bring 121 P (j : Int) S = some (0, S') ∧ bFr P S S' ∧ rAm H S' P (aArr A j (qRs (lc j) (H j) v)) ∧ rDu S' (fun i => if i = j ∧ c = true then true else D i) ∧ S'.1 121 36 = (if c = true then 1 else S.1 121 36) ∧ (c = true ↔ aArr A j (qRs (lc j) (H j) v) ≠ A) := by
  obtain ⟨-, -, -, -, -, -, -, -, -, c27, -⟩ := jc_Ps hP
  obtain ⟨bm, hbm⟩ := big_ge 100 (by decide)
  have vq : ∀ k, k < 12 + H j → qRs (lc j) (H j) v k = v k := fun k hk => by
    unfold qRs
    split
    · rfl
    · rename_i q
      unfold rel at q
      exact (hv0 k (by omega) (by omega)).symm
  -- the end of both
  have fin : ∀ (T : nk_S) (c : Bool) (A' : jA), iFr P j S T → A' j ≠ none → (∀ i, i ≠ j → A' i = A i) → (∀ u, A' j = some u → ∀ k, k < 12 + H j → rSo T (rSt P) (j * 20 + k) (u k)) → bFr P S (rFin P j c T) ∧ rAm H (rFin P j c T) P A' ∧ rDu (rFin P j c T) (fun i => if i = j ∧ c = true then true else D i) ∧ (rFin P j c T).1 121 36 = (if c = true then 1 else S.1 121 36) := by
    intro T c A' fr a1 a2 a3
    have f2 : (rFin P j c T).2 = T.2 := by unfold rFin; split <;> rfl
    have fn : ∀ a, a ≠ P + 27 → a ≠ 238 → a ≠ 121 → (rFin P j c T).1 a = T.1 a := fun a h1 h2 h3 => by
      unfold rFin
      split
      · rw [wi_n h3, wi_n h2, wi_n h1]
      · rw [wi_n h1]
    have f27 : ∀ i, (rFin P j c T).1 (P + 27) i = if i = j then 1 else T.1 (P + 27) i := fun i => by
      unfold rFin
      split
      · rw [wi_n (by omega), wi_n (by omega), wi_at]
      · rw [wi_at]
    have f238 : ∀ i, (rFin P j c T).1 238 i = if i = j ∧ c = true then 1 else T.1 238 i := fun i => by
      unfold rFin
      by_cases hc : c = true
      · rw [if_pos hc, wi_n (by decide), wi_at]
        by_cases e : i = j
        · rw [if_pos e, if_pos ⟨e, hc⟩]
        · rw [if_neg e, if_neg (fun q => e q.1), wi_n (by omega)]
      · rw [if_neg hc, if_neg (fun q => hc q.2), wi_n (by omega)]
    have f121 : ∀ f, (rFin P j c T).1 121 f = if f = 36 ∧ c = true then 1 else T.1 121 f := fun f => by
      unfold rFin
      by_cases hc : c = true
      · rw [if_pos hc, wi_at]
        by_cases e : f = 36
        · rw [if_pos e, if_pos ⟨e, hc⟩]
        · rw [if_neg e, if_neg (fun q => e q.1), wi_n (by decide), wi_n (by omega)]
      · rw [if_neg hc, if_neg (fun q => hc q.2), wi_n (by omega)]
    refine ⟨⟨by rw [f2, fr.1], fun a h1 h2 h3 => by rw [fn a (by omega) h2 h3, fr.2.1 a (by omega)], fun f hf => by rw [f121, if_neg (fun q => hf q.1), fr.2.1 121 (by omega)]⟩, ⟨fun i hi => ?_, fun i u hu k hk => ?_⟩, fun i hi => ?_, ?_⟩
    · rw [f27]
      by_cases e : i = j
      · rw [if_pos e, e]
        cases hq : A' j with
        | none => exact absurd hq a1
        | some u => rfl
      · rw [if_neg e, a2 i e, fr.2.1 (P + 27) (by omega)]
        exact hA.1 i hi
    · refine rSo_c (S := T) (fun q hq => by rw [fn _ (by unfold rSt; omega) (by unfold rSt; omega) (by unfold rSt; omega)]) ?_
      by_cases e : i = j
      · rw [e] at hu hk ⊢
        exact a3 u hu k hk
      · rw [a2 i e] at hu
        have hi8 : H i ≤ 8 ∨ 8 < H i := by omega
        exact rSo_c (fun q hq => fr.2.2 _ _ (by
          have := hHa i u hu
          omega)) (hA.2 i u hu k hk)
    · rw [f238]
      show _ = bi (if i = j ∧ c = true then true else D i)
      by_cases e : i = j ∧ c = true
      · rw [if_pos e, if_pos e]; rfl
      · rw [if_neg e, if_neg e, fr.2.1 238 (by omega)]
        exact hD i hi
    · rw [f121]
      by_cases hc : c = true
      · rw [if_pos ⟨rfl, hc⟩, if_pos hc]
      · rw [if_neg (fun q => hc q.2), if_neg hc, fr.2.1 121 (by omega)]
  cases hq : A j with
  | none =>
    have hr : S.1 (P + 27) j = 0 := by rw [hA.1 j hj, hq]; rfl
    obtain ⟨T, g1, g2, g3⟩ := r_brN (H := H) hP hj hH hv hr hh hw (12 + H j) 0 nk_big S (by omega) (by omega) iFr_rfl (fun k hk => by omega)
    have eA : aArr A j (qRs (lc j) (H j) v) j = some (qRs (lc j) (H j) v) := by rw [aArr_at, hq]
    obtain ⟨k1, k2, k3, k4⟩ := fin T true (aArr A j (qRs (lc j) (H j) v)) g2 (by rw [eA]; exact fun r => by cases r) (fun i hi => aArr_ne hi) (fun u hu k hk => by
      rw [eA] at hu
      cases hu
      rw [vq k hk]
      exact g3 k hk)
    refine ⟨_, true, ?_, k1, k2, k3, k4, ⟨fun _ r => ?_, fun _ => rfl⟩⟩
    · unfold ja_X13_bring
      rw [if_pos (in_i (N := 1024) (by omega)), c27, Int.toNat_natCast, hr, if_pos rfl]
      exact g1
    · rw [r, hq] at eA; cases eA
  | some u =>
    have hr : S.1 (P + 27) j = 1 := by rw [hA.1 j hj, hq]; rfl
    obtain ⟨ou, ou0⟩ := hAw j u hq
    obtain ⟨T, mo, g1, g2, g3, g4⟩ := r_brS (H := H) hP hj hH ou hv hr hh hw (12 + H j) 0 nk_big S false (by omega) (by omega) iFr_rfl (fun k hk => by omega) (fun k _ hk => hA.2 j u hq k hk)
    have eA : aArr A j (qRs (lc j) (H j) v) j = some (fun k => wJn (u k) (qRs (lc j) (H j) v k)) := by rw [aArr_at, hq]
    obtain ⟨k1, k2, k3, k4⟩ := fin T mo (aArr A j (qRs (lc j) (H j) v)) g2 (by rw [eA]; exact fun r => by cases r) (fun i hi => aArr_ne hi) (fun w hw' k hk => by
      rw [eA] at hw'
      cases hw'
      dsimp only
      rw [vq k hk]
      exact g3 k hk)
    refine ⟨_, mo, ?_, k1, k2, k3, k4, ?_⟩
    · unfold ja_X13_bring
      rw [if_pos (in_i (N := 1024) (by omega)), c27, Int.toNat_natCast, hr, if_neg (by decide)]
      exact g1
    · rw [g4]
      constructor
      · rintro (q | ⟨k, -, k6, k7⟩)
        · cases q
        · intro r
          rw [r, hq] at eA
          have := congrFun (Option.some.inj eA) k
          rw [vq k k6] at this
          exact k7 this.symm
      · intro r
        right
        refine Classical.byContradiction (fun q => r ?_)
        funext i
        by_cases e : i = j
        · rw [e, eA, hq]
          have ek : (fun k => wJn (u k) (qRs (lc j) (H j) v k)) = u := by
            funext k
            by_cases hk : k < 12 + H j
            · rw [vq k hk]
              exact Classical.byContradiction (fun q2 => q ⟨k, by omega, hk, q2⟩)
            · have : u k = wU := ou0 k (by unfold rel; omega)
              rw [this]
              unfold wJn
              rw [if_neg (fun z => z.2 rfl)]
          rw [ek]
        · exact aArr_ne e
end RBW
