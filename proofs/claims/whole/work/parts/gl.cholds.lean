section CHF
variable {p : jP} {m m' m1 : jM} {Q : Nat} {tx : List (List Int)} {x : jC} {t : Nat → Int} {inp : Nat → Int} {S S' : nk_S} {A : jA} {σ : jG} {i : Nat} {v : jV} {w : jW} {m0 : Nat}
theorem x_asL (hwf : pWf tx p) (hk : pKX p Q) (h : cXx S Q p A σ) (hm : mOk p m) (ht : mTop p m x t) (hc : cMm S m) (hl : mLw m) (hi4 : m.pc m.d < 1024) {u : Nat → jW} (hA : A (m.pc m.d) = some u) (hu : ∀ k, wOk (pFF p) (u k)) {lc hs : Nat} (elc : lc = pLc p (m.pc m.d)) (ehs : hs = m.hs m.d) : ∀ (n k g : Nat), n + k = 12 + hs → n < g → ∃ b : Bool, ja_X2_isAsProved_L50 g 113 (m.pc m.d : Int) (lc : Int) (k : Int) S = some (bi b, S) ∧ (b = true ↔ ∀ j, k ≤ j → rel lc hs j → hSc p m (u j) (m.vs m.d j)) := by
  have h5 := hc.1.1.1
  have hd := hc.1.1.2
  obtain ⟨-, q2, hh8⟩ := hc.1.2.1 m.d (Nat.le_refl _)
  rw [← ehs] at q2 hh8
  have hH : pH p (m.pc m.d) = hs := by rw [ehs]; exact ht.2.2.1.symm
  have hlc : lc ≤ 12 := by rw [elc]; exact pLc_12 hwf _
  have e12 : ∀ _ : Unit, nk_w (12 + (hs : Int)) = ((12 + hs : Nat) : Int) := fun _ => by rw [nk_w_id (by omega) (by omega)]; omega
  intro n
  induction n with
  | zero =>
    intro k g h1 h2
    obtain ⟨g, rfl⟩ : ∃ q, g = q + 1 := ⟨g - 1, by omega⟩
    refine ⟨true, ?_, ⟨fun _ j a b => by unfold rel at b; omega, fun _ => rfl⟩⟩
    rw [ja_X2_isAsProved_L50]
    unfold ja_X2_isAsProved_b50
    rw [h5, if_pos (in_i (N := 64) (by omega)), jc_113_4, Int.toNat_natCast, q2, e12 (), if_pos (by omega)]
    rfl
  | succ n ih =>
    intro k g h1 h2
    obtain ⟨g, rfl⟩ : ∃ q, g = q + 1 := ⟨g - 1, by omega⟩
    obtain ⟨b, r1, r2⟩ := ih (k + 1) g (by omega) (by omega)
    rw [ja_X2_isAsProved_L50]
    unfold ja_X2_isAsProved_b50
    rw [h5, if_pos (in_i (N := 64) (by omega)), jc_113_4, Int.toNat_natCast, q2, e12 (), if_neg (by omega)]
    by_cases cr : rel lc hs k
    · have h77 : (if (k : Int) < (lc : Int) then ja_X2_isAsProved_b77 (ja_X2_isAsProved_L50 g) 113 (m.pc m.d : Int) (lc : Int) (k : Int) S else if (k : Int) < 12 then nk_lt (nk_w ((k : Int) + 1)) fun v3 => ja_X2_isAsProved_L50 g 113 (m.pc m.d : Int) (lc : Int) v3 S else ja_X2_isAsProved_b77 (ja_X2_isAsProved_L50 g) 113 (m.pc m.d : Int) (lc : Int) (k : Int) S) = ja_X2_isAsProved_b77 (ja_X2_isAsProved_L50 g) 113 (m.pc m.d : Int) (lc : Int) (k : Int) S := by
        by_cases c : k < lc
        · rw [if_pos (by omega)]
        · rw [if_neg (by omega), if_neg (by unfold rel at cr; omega)]
      rw [h77]
      unfold ja_X2_isAsProved_b77
      have eix : ∀ _ : Unit, nk_w (nk_w ((m.d : Int) * 20) + (k : Int)) = ((m.d * 20 + k : Nat) : Int) := fun _ => by
        rw [nk_w_id (z := (m.d : Int) * 20) (by omega) (by omega), nk_w_id (by omega) (by omega)]
        omega
      have eiy : ∀ _ : Unit, nk_w (nk_w ((m.pc m.d : Int) * 20) + (k : Int)) = ((m.pc m.d * 20 + k : Nat) : Int) := fun _ => by
        rw [nk_w_id (z := (m.pc m.d : Int) * 20) (by omega) (by omega), nk_w_id (by omega) (by omega)]
        omega
      have hcell : S.1 114 (m.d * 20 + k) = mCv (m.vs m.d k) := hc.1.2.2 m.d k (Nat.le_refl _) (by unfold rel at cr; rw [← ehs]; omega)
      have hwv : vWf m (m.vs m.d k) := by
        by_cases c : k < 12
        · exact hl m.d k (Nat.le_refl _) c
        · exact (ht.2.2.2 k (by rw [← elc, ← ehs]; exact cr)).1
      have hst := h.2.2.2.2.1.2 _ u hA k (by rw [← elc, hH]; exact cr)
      obtain ⟨bb, g1, g2⟩ := x_slotH hwf hk h hm.2.1 hc hl (j := m.pc m.d * 20 + k) (by omega) hst (hu k) hwv
      rw [h5, eix (), if_pos (in_i (N := 1280) (by omega)), eiy (), jc_113_2, Int.toNat_natCast, hcell, g1, bd_some]
      cases bb with
      | false =>
        rw [if_pos (show bi false = 0 from rfl)]
        exact ⟨false, rfl, ⟨fun q => absurd q (by decide), fun q => absurd (g2.mpr (q k (Nat.le_refl _) cr)) (by decide)⟩⟩
      | true =>
        rw [if_neg (show ¬ bi true = 0 by decide), w_nat1 (by omega), lt_eq]
        refine ⟨b, r1, ?_⟩
        rw [r2]
        constructor
        · intro q j a1 a2
          by_cases e : j = k
          · rw [e]; exact g2.mp rfl
          · exact q j (by omega) a2
        · intro q j a1 a2
          exact q j (by omega) a2
    · rw [if_neg (by unfold rel at cr; omega), if_pos (by unfold rel at cr; omega), w_nat1 (by omega), lt_eq]
      refine ⟨b, r1, ?_⟩
      rw [r2]
      constructor
      · intro q j a1 a2
        by_cases e : j = k
        · rw [e] at a2; exact absurd a2 cr
        · exact q j (by omega) a2
      · intro q j a1 a2
        exact q j (by omega) a2
/-- does the state hold -/
theorem x_asP (hwf : pWf tx p) (hk : pKX p Q) (h : cXx S Q p A σ) (hI : pIn (pFF p) (pZZ p) (pLc p) (pTy p) m0 A σ) (hm : mOk p m) (ht : mTop p m x t) (hc : cMm S m) (hl : mLw m) : ∃ b : Bool, ja_X2_isAsProved 113 S = some (bi b, S) ∧ (b = true ↔ hOc p A m) := by
  obtain ⟨b1, b2, b3, b4, b5⟩ := x_at hk hm ht hc
  have h5 := hc.1.1.1
  have e115 := (hc.1.2.1 m.d (Nat.le_refl _)).1
  have j96 : ja_c (ja_c (ja_c 113 0) 2) 2 = 96 := rfl
  have h96 := h.2.2.2.2.1.1 (m.pc m.d) b4
  unfold ja_X2_isAsProved
  rw [h5, if_pos (in_i (N := 64) (by omega)), lt_eq, jc_113_3, Int.toNat_natCast, e115, if_pos (in_i (N := 1024) (by omega)), j96, Int.toNat_natCast, h96]
  cases hA : A (m.pc m.d) with
  | none =>
    rw [if_pos (show bi (Option.isSome (none : Option (Nat → jW))) = 0 from rfl)]
    refine ⟨false, rfl, ⟨fun q => absurd q (by decide), fun ⟨u, q, _⟩ => ?_⟩⟩
    rw [hA] at q
    cases q
  | some u =>
    rw [if_neg (show ¬ bi (Option.isSome (some u)) = 0 from (by decide : ¬ bi true = 0))]
    obtain ⟨x', t', c1, c2, c3⟩ := hI.1 _ u hA
    obtain ⟨a1, e, a2, a3, a4⟩ := hwf.2.2.1.1 _ x ht.1
    have hbl := hwf.1.2.2.2.2.2.2.1.1
    have h29 := (cx_op h ht.1).2.2.2
    have h16 := (h.2.2.2.1 _ x ht.1).2
    obtain ⟨bm, hbm⟩ := big_ge 100 (by decide)
    obtain ⟨b, r1, r2⟩ := x_asL hwf hk h hm ht hc hl b4 hA (fun k => c3.1.1 k) rfl rfl (12 + m.hs m.d) 0 nk_big rfl (by omega)
    refine ⟨b, ?_, ?_⟩
    · rw [h.2.1, (jc_Qp h.1).2.2.2.2.2.1, (jc_Q2 h.1).1, (jc_Q9 h.1).2.2.2.2.2.2.1, h29, if_pos (in_i (N := 48) (by omega)), Int.toNat_natCast, h16, lt_eq]
      exact r1
    · rw [r2]
      constructor
      · intro q
        exact ⟨u, hA, fun k hk' => q k (Nat.zero_le _) hk'⟩
      · intro ⟨u', q1, q2⟩ k _ hk'
        rw [hA] at q1
        cases q1
        exact q2 k hk'
end CHF
