/-! The run: the reference makes objects. -/
section RMR
variable {p : jP} {m m' m1 : jM} {P Q : Nat} {tx : List (List Int)} {x : jC} {t : Nat → Int} {inp : Nat → Int} {S S' S1 : nk_S} {A : jA} {σ : jG} {i : Nat} {v : jV}
theorem jc_Pm (h : P = 122 ∨ P = 168) : ja_c P 9 = P + 2 ∧ ja_c P 10 = P + 3 ∧ ja_c P 11 = P + 4 ∧ ja_c P 12 = P + 5 ∧ ja_c P 27 = P + 20 ∧ ja_c P 15 = P + 8 ∧ ja_c P 21 = P + 14 ∧ ja_c P 19 = P + 12 := by
  rcases h with e | e <;> rw [e] <;> exact ⟨rfl, rfl, rfl, rfl, rfl, rfl, rfl, rfl⟩
/-- the cells of a new object are set -/
theorem r_mkL {op ty r z : Int} {ba sz : Nat} (hb : ba + sz ≤ 12000) (hz : z = if op = 31 then (if ty = 40 then 0 else 1099511627776) else 1099511627776) : ∀ (c k g : Nat) (S : nk_S), c + k = sz → c < g → ∃ T, ja_X13_make_L93 g 121 op ty (sz : Int) r (ba : Int) (k : Int) S = (if op = 30 then ja_X13_make_L145 nk_big 121 ty r (ba : Int) 0 T else ja_X13_make_b220 121 r T) ∧ T.2 = S.2 ∧ (∀ a, a ≠ 247 → T.1 a = S.1 a) ∧ ∀ j, T.1 247 j = if ba + k ≤ j ∧ j < ba + sz then z else S.1 247 j := by
  intro c
  induction c with
  | zero =>
    intro k g S hk hg
    obtain ⟨g, rfl⟩ : ∃ q, g = q + 1 := ⟨g - 1, by omega⟩
    refine ⟨S, ?_, rfl, fun _ _ => rfl, fun j => by rw [if_neg (by omega)]⟩
    show ja_X13_make_b93 (ja_X13_make_L93 g) 121 op ty (sz : Int) r (ba : Int) (k : Int) S = _
    unfold ja_X13_make_b93
    rw [if_pos (by omega)]
  | succ c ih =>
    intro k g S hk hg
    obtain ⟨g, rfl⟩ : ∃ q, g = q + 1 := ⟨g - 1, by omega⟩
    obtain ⟨T, t1, t2, t3, t4⟩ := ih (k + 1) g (nk_wi S 247 (ba + k) z) (by omega) (by omega)
    have e6 : ∀ _ : Unit, nk_w ((ba : Int) + (k : Int)) = ((ba + k : Nat) : Int) := fun _ => by
      rw [nk_w_id (by omega) (by omega)]; omega
    refine ⟨T, ?_, t2, fun a ha => by rw [t3 a ha, wi_n ha], fun j => ?_⟩
    · show ja_X13_make_b93 (ja_X13_make_L93 g) 121 op ty (sz : Int) r (ba : Int) (k : Int) S = _
      unfold ja_X13_make_b93
      rw [if_neg (by omega), e6 (), w_nat1 (by omega), if_pos (in_i (N := 12000) (by omega)), jc_rm.2.2.2.2.2.2.2.2.1, Int.toNat_natCast, lt_eq, lt_eq, lt_eq, lt_eq, if_pos (in_i (N := 12000) (by omega))]
      by_cases c1 : op = 31
      · rw [if_pos c1] at hz ⊢
        by_cases c2 : ty = 40
        · rw [if_pos c2] at hz ⊢
          rw [hz] at t1; exact t1
        · rw [if_neg c2] at hz ⊢
          rw [hz] at t1; exact t1
      · rw [if_neg c1] at hz ⊢
        rw [hz] at t1; exact t1
    · rw [t4, wi_at]
      by_cases c1 : j = ba + k
      · rw [if_neg (by omega), if_pos c1, if_pos (by omega)]
      · rw [if_neg c1]
        by_cases c2 : ba + (k + 1) ≤ j ∧ j < ba + sz
        · rw [if_pos c2, if_pos (by omega)]
        · rw [if_neg c2, if_neg (by omega)]
theorem rvT_z {r : Int} (h : r = 1 ∨ 2 ≤ r) : rvT r = 0 ↔ r = 1 := by
  unfold rvT
  by_cases c : r = 1
  · rw [if_pos c]; exact ⟨fun _ => c, fun _ => rfl⟩
  · rw [if_neg c]
    refine ⟨fun q => ?_, fun q => absurd q c⟩
    by_cases c3 : r = 3
    · rw [if_pos c3] at q; omega
    · rw [if_neg c3, if_neg (by omega)] at q
      split at q <;> omega
/-- the fields of a new object that are numbers -/
theorem r_flL (hwf : pWf tx p) (hk : pKX p Q) {c ba : Nat} {r : Int} (hc : c < p.2.1.length) (hb : ba + nOf p.2.1 p.2.2.1 c ≤ 12000) : ∀ (n f g : Nat) (S : nk_S), n + f = p.2.2.1.length → n < g → rXx S P p A σ → ∃ T, ja_X13_make_L145 g 121 (8 + (c : Int)) r (ba : Int) (f : Int) S = ja_X13_make_b220 121 r T ∧ T.2 = S.2 ∧ (∀ a, a ≠ 247 → T.1 a = S.1 a) ∧ (∀ j, T.1 247 j = S.1 247 j ∨ (T.1 247 j = 0 ∧ ∃ (f' : Nat) (y : List Int × Nat × Int), p.2.2.1[f']? = some y ∧ anc p.2.1 c y.2.1 = true ∧ y.2.2 = 1 ∧ j = ba + fPl p f')) ∧ ∀ (f' : Nat) (y : List Int × Nat × Int), f ≤ f' → p.2.2.1[f']? = some y → anc p.2.1 c y.2.1 = true → y.2.2 = 1 → T.1 247 (ba + fPl p f') = 0 := by
  obtain ⟨c1, c2, c3, c4, c5, c6, c7, c8⟩ := p_ctx hwf hk
  have hfl := c5.1
  have hpn := hwf.1.2.1
  intro n
  induction n with
  | zero =>
    intro f g S hn hg h
    obtain ⟨g, rfl⟩ : ∃ q, g = q + 1 := ⟨g - 1, by omega⟩
    have h1 := (rx_at hwf hk h).2.2.2.2.2.2.2.1
    refine ⟨S, ?_, rfl, fun _ _ => rfl, fun j => Or.inl rfl, fun f' y h1 h2 => by have := at_lt h2; omega⟩
    show ja_X13_make_b145 (ja_X13_make_L145 g) 121 (8 + (c : Int)) r (ba : Int) (f : Int) S = _
    unfold ja_X13_make_b145
    rw [h.2.1, h1, if_pos (by omega)]
  | succ n ih =>
    intro f g S hn hg h
    obtain ⟨g, rfl⟩ : ∃ q, g = q + 1 := ⟨g - 1, by omega⟩
    have hx := (rx_at hwf hk h)
    have h1 := hx.2.2.2.2.2.2.2.1
    obtain ⟨y, hy⟩ := List.getElem?_eq_some_iff.mpr ⟨show f < p.2.2.1.length by omega, rfl⟩ |> fun q => (⟨_, q⟩ : ∃ y, p.2.2.1[f]? = some y)
    obtain ⟨h3, h4⟩ := hx.2.2.2.2.2.2.2.2 f y hy
    have hyb := c5.2 f y hy
    have hy2 := (c6 y (List.mem_of_getElem? hy)).2
    have h5 : S.1 (P + 5) f = (fPl p f : Int) := by rw [hx.2.2.2.2.2.2.1.2.1 f y hy (by omega), fPl_at hy]
    have e8 : ∀ _ : Unit, nk_w (8 + (c : Int) - 8) = (c : Int) := fun _ => by rw [nk_w_id (by omega) (by omega)]; omega
    have hdef : ja_X13_make_L145 (g + 1) 121 (8 + (c : Int)) r (ba : Int) (f : Int) S = ja_X13_make_b145 (ja_X13_make_L145 g) 121 (8 + (c : Int)) r (ba : Int) (f : Int) S := rfl
    have jP := jc_Pm h.1
    have hskip : ¬ (anc p.2.1 c y.2.1 = true ∧ y.2.2 = 1) → ja_X13_make_L145 (g + 1) 121 (8 + (c : Int)) r (ba : Int) (f : Int) S = ja_X13_make_L145 g 121 (8 + (c : Int)) r (ba : Int) ((f + 1 : Nat) : Int) S := fun hn2 => by
      rw [hdef]
      unfold ja_X13_make_b145
      rw [h.2.1, h1, if_neg (by omega), if_pos (in_i (N := 48) (by omega)), jP.2.2.1, jP.2.1, Int.toNat_natCast, h4, h3, e8 (), m_an h.1 hx.1 c1 c2 hc, bd_some]
      by_cases c0 : rvT y.2.2 = 0
      · rw [if_pos c0]
        have := (rvT_z hy2).mp c0
        cases ha : anc p.2.1 c y.2.1 with
        | true => exact absurd ⟨ha, this⟩ hn2
        | false => rw [if_pos (show bi false = 0 from rfl), w_nat1 (by omega), lt_eq]
      · rw [if_neg c0, w_nat1 (by omega), lt_eq]
    by_cases cc : anc p.2.1 c y.2.1 = true ∧ y.2.2 = 1
    · have hlt := fPl_lt c1 c2 c5 hy hc cc.1
      obtain ⟨T, t1, t2, t3, t4, t5⟩ := ih (f + 1) g (nk_wi S 247 (ba + fPl p f) 0) (by omega) (by omega) (rXx_f (rxF_wi (by omega)) h)
      have e6 : ∀ _ : Unit, nk_w ((ba : Int) + (fPl p f : Int)) = ((ba + fPl p f : Nat) : Int) := fun _ => by rw [nk_w_id (by omega) (by omega)]; omega
      refine ⟨T, ?_, t2, fun a ha => by rw [t3 a ha, wi_n ha], fun j => ?_, fun f' y' q1 q2 q3 q4 => ?_⟩
      · rw [hdef]
        unfold ja_X13_make_b145
        rw [h.2.1, h1, if_neg (by omega), if_pos (in_i (N := 48) (by omega)), jP.2.2.1, jP.2.1, Int.toNat_natCast, h4, h3, e8 (), m_an h.1 hx.1 c1 c2 hc, bd_some, if_pos ((rvT_z hy2).mpr cc.2), cc.1, if_neg (show ¬ bi true = 0 by decide), h.2.1, jP.2.2.2.1, h5, e6 (), if_pos (in_i (N := 12000) (by omega)), Int.toNat_natCast, jc_rm.2.2.2.2.2.2.2.2.1, lt_eq, w_nat1 (by omega), lt_eq]
        exact t1
      · rcases t4 j with q | q
        · rw [wi_at] at q
          by_cases e : j = ba + fPl p f
          · rw [if_pos e] at q
            exact Or.inr ⟨q, f, y, hy, cc.1, cc.2, e⟩
          · rw [if_neg e] at q
            exact Or.inl q
        · exact Or.inr q
      · by_cases e : f' = f
        · rw [e]
          rcases t4 (ba + fPl p f) with q | q
          · rw [q, wi_at, if_pos rfl]
          · exact q.1
        · exact t5 f' y' (by omega) q2 q3 q4
    · obtain ⟨T, t1, t2, t3, t4, t5⟩ := ih (f + 1) g S (by omega) (by omega) h
      refine ⟨T, by rw [hskip cc]; exact t1, t2, t3, t4, fun f' y' q1 q2 q3 q4 => ?_⟩
      by_cases e : f' = f
      · rw [e, hy] at q2
        cases q2
        exact absurd ⟨q3, q4⟩ cc
      · exact t5 f' y' (by omega) q2 q3 q4
end RMR
