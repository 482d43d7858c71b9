/-! What is true of a program's sites and numbers. -/
def zN (ns : List (List Int)) (z : jL) : Prop := (∀ t ∈ z.2.1, tOk ns t ∧ t ≠ 1) ∧ (∀ v ∈ z.2.2.2, -2147483648 ≤ v ∧ v ≤ 2147483647) ∧ ∀ x ∈ z.1, (x.1 = 0 → x.2.1 ∈ z.2.2.2) ∧ (x.1 = 37 ∨ x.1 = 38 → x.2.1 ≠ 1)
section PNU
variable {tx ns : List (List Int)} {us : List Int} {fl : List (List Int × Nat × Int)} {bl : List jB}
theorem tyC_n1 {l : List Int} (h : l ≠ fx.getD 52 []) : tyC ns l ≠ 1 := by
  have r := amx_rg (l.take (l.length - 2)) ns 0
  have r2 := amx_rg l ns 0
  unfold tyC
  rw [if_neg h]
  split
  · decide
  · split
    · decide
    · split
      · split
        · omega
        · decide
      · split
        · omega
        · decide
theorem fK_78 : fK 37 = 7 ∧ fK 38 = 7 := by decide +kernel
theorem lnS_n {ls : List (List Int × Nat × Nat)} {st en b : Nat} {lc : Int} (hls : ∀ q ∈ ls, st ≤ q.2.2) (hns : ns.length ≤ 32) {a : Nat} {z : jL} (hl : (fLine tx a).1 = true) (h : (lnS tx ns us fl bl ls en b lc a z).1 = none) (hz : zN ns z) : zN ns (lnS tx ns us fl bl ls en b lc a z).2 := by
  rcases ln_kind hl with ⟨g1, g2, g3⟩ | ⟨g0, g1, -, -, -, g2, g3⟩ | ⟨g1, g2, g3, g4, g5⟩
  · unfold lnS at h ⊢
    rw [if_pos g1] at h ⊢
    cases hf : lfd (tx.getD a []) ls with
    | none => rw [hf] at h; cases h
    | some q =>
      rw [hf] at h
      dsimp only at h ⊢
      by_cases c : q.1 = a
      · rw [if_pos c]; exact hz
      · rw [if_neg c] at h; cases h
  · unfold lnS at h ⊢
    rw [if_neg (show ¬ fW tx 59 (a + 1) = true by rw [g0]; decide), if_pos g1] at h ⊢
    split at h
    · cases h
    rename_i c1
    rw [if_neg c1]
    split at h
    · cases h
    rename_i c2
    rw [if_neg c2]
    split at h
    · cases h
    rename_i c3
    rw [if_neg c3]
    split at h
    · cases h
    rename_i c4
    rw [if_neg c4]
    split at h
    · cases h
    rename_i c5
    rw [if_neg c5]
    exact hz
  · unfold lnS at h ⊢
    rw [if_neg (show ¬ fW tx 59 (a + 1) = true by rw [g1]; decide), if_neg (show ¬ fW tx 46 a = true by rw [g2]; decide)] at h ⊢
    by_cases c1 : 1024 ≤ z.1.length ∨ ((fO tx a = 30 ∨ fO tx a = 31) ∧ 48 ≤ z.2.1.length)
    · rw [if_pos c1] at h; cases h
    rw [if_neg c1] at h ⊢
    have hr := fO_rg (tx := tx) a
    cases hX : oX tx ns us fl bl ls en lc (fO tx a).toNat (a + 1) with
    | none => rw [hX] at h; cases h
    | some q =>
      obtain ⟨x, y⟩ := q
      obtain ⟨o, hoo⟩ : ∃ o, o = (fO tx a).toNat := ⟨_, rfl⟩
      have hw := oX_w (sl := z.2.1) (b := b) (t := a) hls (by omega) g4 hns hX
      rw [← hoo] at hw hX g4 ⊢
      show zN ns (psh b o a x y z)
      unfold psh
      obtain ⟨z1, z2, z3⟩ := hz
      refine ⟨fun t ht => ?_, fun v hv => ?_, fun c hc => ?_⟩
      · have ht : t ∈ z.2.1 ++ sTy o x := ht
        rcases List.mem_append.mp ht with q | q
        · exact z1 t q
        · unfold sTy at q
          by_cases h30 : o = 30
          · rw [if_pos h30, List.mem_singleton] at q
            obtain ⟨c, c1, c2⟩ := hw.2.2.2.1 (by show fK o = 5; rw [h30]; exact fK_ty.1)
            have c1 : x = (c : Int) := c1
            rw [q, c1]
            exact ⟨Or.inr (Or.inr ⟨c, c2, Or.inl rfl⟩), by omega⟩
          · rw [if_neg h30] at q
            by_cases h31 : o = 31
            · rw [if_pos h31, List.mem_singleton] at q
              have k6 : fK o = 6 := by rw [h31]; exact fK_ty.2.1
              have := (hw.2.2.2.2.1 (Or.inl k6)).2 k6
              rcases this with r | ⟨c, r1, r2⟩
              · have r : x = 1 := r
                rw [q, if_pos r]
                exact ⟨Or.inr (Or.inl rfl), by decide⟩
              · have r2 : x = 4 + 2 * (c : Int) := r2
                rw [q, if_neg (by omega), r2]
                exact ⟨Or.inr (Or.inr ⟨c, r1, Or.inr (by omega)⟩), by omega⟩
            · rw [if_neg h31] at q
              cases q
      · have hv : v ∈ z.2.2.2 ++ nTh o x y := hv
        rcases List.mem_append.mp hv with q | q
        · exact z2 v q
        · unfold nTh at q
          by_cases h0 : o = 0
          · rw [if_pos h0, List.mem_singleton] at q
            rw [q]
            exact hw.2.2.2.2.2.2.2.2.1 h0
          · rw [if_neg h0] at q
            by_cases h4 : o = 4
            · rw [if_pos h4, List.mem_singleton] at q
              have := hw.2.2.2.2.2.2.2.2.2 h4
              have this : -2147483648 ≤ (if o = 30 ∨ o = 31 then (z.2.1.length : Int) else y) ∧ (if o = 30 ∨ o = 31 then (z.2.1.length : Int) else y) ≤ 2147483647 := this
              rw [if_neg (by omega)] at this
              rw [q]
              exact this
            · rw [if_neg h4] at q
              cases q
      · have hc : c ∈ z.1 ++ [(o, x, if o = 30 ∨ o = 31 then (z.2.1.length : Int) else y, b, a)] := hc
        rcases List.mem_append.mp hc with q | q
        · exact ⟨fun r => List.mem_append.mpr (Or.inl ((z3 c q).1 r)), (z3 c q).2⟩
        · rw [List.mem_singleton] at q
          rw [q]
          refine ⟨fun r => List.mem_append.mpr (Or.inr ?_), fun r => ?_⟩
          · have r : o = 0 := r
            show x ∈ nTh o x y
            unfold nTh
            rw [if_pos r]
            exact List.mem_singleton.mpr rfl
          · have r : o = 37 ∨ o = 38 := r
            have k7 : fK o = 7 := by
              rcases r with r | r
              · rw [r]; exact fK_78.1
              · rw [r]; exact fK_78.2
            rw [k7] at g4
            have g4 : (tk (fT tx (a + 1) && !fW tx 52 (a + 1)) (a + 1)).1 = true := g4
            have g6 := (tk_ok g4).1
            rw [Bool.and_eq_true] at g6
            have hne : tx.getD (a + 1) [] ≠ fx.getD 52 [] := by
              intro e
              have hlt : a + 1 < tx.length := by
                by_cases hq : a + 1 < tx.length
                · exact hq
                · exfalso
                  rw [List.getD_eq_getElem?_getD, List.getElem?_eq_none (by omega)] at e
                  exact absurd e (by decide +kernel)
              have : fW tx 52 (a + 1) = true := by
                unfold fW
                refine decide_eq_true ?_
                rw [List.getElem?_eq_getElem hlt]
                rw [List.getD_eq_getElem?_getD, List.getElem?_eq_getElem hlt, Option.getD_some] at e
                rw [e]
              rw [this] at g6
              exact absurd g6.2 (by decide)
            unfold oX at hX
            rw [k7] at hX
            have hX : (if tyC ns (tx.getD (a + 1) []) = -2 then none else some (tyC ns (tx.getD (a + 1) []), (0 : Int))) = some (x, y) := hX
            split at hX
            · cases hX
            · cases hX
              exact tyC_n1 hne
theorem lnL_n {ls : List (List Int × Nat × Nat)} {st en b : Nat} {lc : Int} (hls : ∀ q ∈ ls, st ≤ q.2.2) (hns : ns.length ≤ 32) : ∀ (d a : Nat) (z : jL), (fLines tx d a).1 = true → (lnL tx ns us fl bl ls en b lc st d a z).1 = none → zN ns z → zN ns (lnL tx ns us fl bl ls en b lc st d a z).2 := by
  intro d
  induction d with
  | zero => intro a z h; cases h
  | succ d ih =>
    intro a z h hn hz
    rw [fLines] at h
    rw [lnL] at hn ⊢
    cases h58 : fW tx 58 a with
    | true =>
      rw [h58, if_pos rfl] at hn
      rw [if_pos rfl]
      split at hn
      · rename_i c; rw [if_pos c]; exact hz
      · cases hn
    | false =>
      rw [h58, if_neg (by decide)] at h hn
      rw [if_neg (by decide)]
      obtain ⟨g1, g2, g3⟩ := sq_ok h
      cases hs : lnS tx ns us fl bl ls en b lc a z with
      | mk r w =>
        have hs1 : (lnS tx ns us fl bl ls en b lc a z).1 = r := by rw [hs]
        have hs2 : (lnS tx ns us fl bl ls en b lc a z).2 = w := by rw [hs]
        rw [hs] at hn
        cases r with
        | some y => cases hn
        | none =>
          dsimp only at hn ⊢
          have hw := lnS_n hls hns g1 hs1 hz
          rw [hs2] at hw
          exact ih _ w g2 hn hw
theorem fLn_n (hns : ns.length ≤ 32) {p : Nat} (hP : bP tx bl p) : ∀ (d b : Nat) (z : jL) (el : List (Nat × Nat × Nat × Nat)), zN ns z → (fLn tx ns us fl bl d b z el).1 = none → zN ns (fLn tx ns us fl bl d b z el).2.1 := by
  intro d
  induction d with
  | zero => intro b z el hz _; exact hz
  | succ d ih =>
    intro b z el hz hn
    rw [fLn] at hn ⊢
    cases hx : bl[b]? with
    | none => exact hz
    | some x =>
      rw [hx] at hn
      dsimp only at hn ⊢
      obtain ⟨p1, p2, p3⟩ := hP.1 x (List.mem_of_getElem? hx)
      obtain ⟨l1, l2, l3, l4⟩ := lbs_ok 20000 (x.op + 1) z.1.length p1
      cases hs : lnL tx ns us fl bl (lbs tx 20000 (x.op + 1) z.1.length).1 (lbs tx 20000 (x.op + 1) z.1.length).2 b x.lc z.1.length 20000 (x.op + 1) z with
      | mk r w =>
        have hs1 : (lnL tx ns us fl bl (lbs tx 20000 (x.op + 1) z.1.length).1 (lbs tx 20000 (x.op + 1) z.1.length).2 b x.lc z.1.length 20000 (x.op + 1) z).1 = r := by rw [hs]
        have hs2 : (lnL tx ns us fl bl (lbs tx 20000 (x.op + 1) z.1.length).1 (lbs tx 20000 (x.op + 1) z.1.length).2 b x.lc z.1.length 20000 (x.op + 1) z).2 = w := by rw [hs]
        rw [hs] at hn
        cases r with
        | some y => cases hn
        | none =>
          dsimp only at hn ⊢
          have hw := lnL_n (tx := tx) (ns := ns) (us := us) (fl := fl) (bl := bl) (ls := (lbs tx 20000 (x.op + 1) z.1.length).1) (st := z.1.length) (fun q hq => (l1 q hq).2.2.2.1) hns 20000 (x.op + 1) z p1 hs1 hz
          rw [hs2] at hw
          exact ih (b + 1) w _ hw hn
end PNU
