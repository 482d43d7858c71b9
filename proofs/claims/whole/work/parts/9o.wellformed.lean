/-! What is true of a program's lines: bodies. -/
section WG
variable {tx ns : List (List Int)} {us : List Int} {fl : List (List Int × Nat × Int)} {bl : List jB}
/-- so far in a body -/
def wZ (ns : List (List Int)) (us : List Int) (fl : List (List Int × Nat × Int)) (bl : List jB) (st en ks b : Nat) (lc : Int) (z : jL) : Prop := (∀ (i : Nat) (x : jC), st ≤ i → z.1[i]? = some x → x.2.2.2.1 = b ∧ cW ns us fl bl z.2.1 st en lc x) ∧ ∀ (k : Nat) (x : Nat × Nat × Nat × Nat × Nat), ks ≤ k → z.2.2.1[k]? = some x → kWf ns us st en b x
/-- a line goes on from z to w -/
def zExt (z w : jL) : Prop := (∃ t, w.1 = z.1 ++ t) ∧ (∃ t, w.2.1 = z.2.1 ++ t) ∧ ∃ t, w.2.2.1 = z.2.2.1 ++ t
theorem zExt_rfl (z : jL) : zExt z z := ⟨⟨[], (List.append_nil _).symm⟩, ⟨[], (List.append_nil _).symm⟩, ⟨[], (List.append_nil _).symm⟩⟩
theorem zExt_trans {z w v : jL} (h : zExt z w) (k : zExt w v) : zExt z v := by
  obtain ⟨⟨t1, h1⟩, ⟨t2, h2⟩, ⟨t3, h3⟩⟩ := h
  obtain ⟨⟨s1, k1⟩, ⟨s2, k2⟩, ⟨s3, k3⟩⟩ := k
  exact ⟨⟨t1 ++ s1, by rw [k1, h1, List.append_assoc]⟩, ⟨t2 ++ s2, by rw [k2, h2, List.append_assoc]⟩, ⟨t3 ++ s3, by rw [k3, h3, List.append_assoc]⟩⟩
theorem lat_in {ls : List (List Int × Nat × Nat)} {st en : Nat} (hls : ∀ q ∈ ls, st ≤ q.2.2 ∧ q.2.2 ≤ en) {n : List Int} (h : 0 ≤ lat ls n) : st ≤ (lat ls n).toNat ∧ (lat ls n).toNat ≤ en := by
  unfold lat at h ⊢
  cases hl : lfd n ls with
  | none => rw [hl] at h; exact absurd h (by decide)
  | some w => exact hls _ (lfd_in hl)
theorem lnS_w {ls : List (List Int × Nat × Nat)} {st en ks b : Nat} {lc : Int} (hls : ∀ q ∈ ls, st ≤ q.2.2 ∧ q.2.2 ≤ en) (hns : ns.length ≤ 32) {a : Nat} {z : jL} (hl : (fLine tx a).1 = true) (hst : st ≤ z.1.length) (hks : ks ≤ z.2.2.1.length) (h : (lnS tx ns us fl bl ls en b lc a z).1 = none) (hz : wZ ns us fl bl st en ks b lc z) : wZ ns us fl bl st en ks b lc (lnS tx ns us fl bl ls en b lc a z).2 ∧ zExt z (lnS tx ns us fl bl ls en b lc a z).2 := by
  obtain ⟨z1, z2⟩ := hz
  rcases ln_kind hl with ⟨g1, g2, g3⟩ | ⟨g0, g1, -, -, -, g2, g3⟩ | ⟨g1, g2, g3, g4, g5⟩
  · unfold lnS at h ⊢
    rw [if_pos g1] at h ⊢
    cases hf : lfd (tx.getD a []) ls with
    | none => rw [hf] at h; cases h
    | some q =>
      rw [hf] at h
      dsimp only at h ⊢
      by_cases c : q.1 = a
      · rw [if_pos c]; exact ⟨⟨z1, z2⟩, zExt_rfl z⟩
      · rw [if_neg c] at h; cases h
  · unfold lnS at h ⊢
    rw [if_neg (show ¬ fW tx 59 (a + 1) = true by rw [g0]; decide), if_pos g1] at h ⊢
    split at h
    · cases h
    rename_i c1
    rw [if_neg c1]
    split at h
    · cases h
    rename_i c2
    rw [if_neg c2]
    split at h
    · cases h
    rename_i c3
    rw [if_neg c3]
    split at h
    · cases h
    rename_i c4
    rw [if_neg c4]
    split at h
    · cases h
    rename_i c5
    rw [if_neg c5]
    have l1 := lat_in hls (n := tx.getD (a + 1) []) (by omega)
    have l2 := lat_in hls (n := tx.getD (a + 2) []) (by omega)
    have l3 := lat_in hls (n := tx.getD (a + 3) []) (by omega)
    have r := amx_rg (tx.getD (a + 4) []) ns 0
    refine ⟨⟨z1, fun k x hk hx => ?_⟩, ⟨[], (List.append_nil _).symm⟩, ⟨[], (List.append_nil _).symm⟩, ⟨_, rfl⟩⟩
    rcases fl_case hx with ⟨k1, e⟩ | ⟨k1, e⟩
    · exact z2 k x hk e
    · rw [e]
      refine ⟨rfl, l1.1, ?_, l2.2, l3.1, ?_, ?_, ?_⟩
      · show (lat ls (tx.getD (a + 1) [])).toNat < (lat ls (tx.getD (a + 2) [])).toNat
        omega
      · show (lat ls (tx.getD (a + 3) [])).toNat < en
        omega
      · show (amx (tx.getD (a + 4) []) ns 0).toNat < ns.length
        omega
      · show anc us (amx (tx.getD (a + 4) []) ns 0).toNat 1 = true
        cases hb : anc us (amx (tx.getD (a + 4) []) ns 0).toNat 1 with
        | true => rfl
        | false => exact absurd (Or.inr hb) c5
  · unfold lnS at h ⊢
    rw [if_neg (show ¬ fW tx 59 (a + 1) = true by rw [g1]; decide), if_neg (show ¬ fW tx 46 a = true by rw [g2]; decide)] at h ⊢
    by_cases c1 : 1024 ≤ z.1.length ∨ ((fO tx a = 30 ∨ fO tx a = 31) ∧ 48 ≤ z.2.1.length)
    · rw [if_pos c1] at h; cases h
    rw [if_neg c1] at h ⊢
    have hr := fO_rg (tx := tx) a
    cases hX : oX tx ns us fl bl ls en lc (fO tx a).toNat (a + 1) with
    | none => rw [hX] at h; cases h
    | some q =>
      obtain ⟨x, y⟩ := q
      refine ⟨⟨fun i c hi hc => ?_, z2⟩, ⟨_, rfl⟩, ⟨_, rfl⟩, ⟨[], (List.append_nil _).symm⟩⟩
      show c.2.2.2.1 = b ∧ cW ns us fl bl (z.2.1 ++ sTy (fO tx a).toNat x) st en lc c
      rcases fl_case hc with ⟨k1, e⟩ | ⟨k1, e⟩
      · obtain ⟨p1, p2⟩ := z1 i c hi e
        exact ⟨p1, cW_sl p2⟩
      · rw [e]
        exact ⟨rfl, oX_w (fun q hq => (hls q hq).1) (by omega) g4 hns hX⟩
theorem lnL_w {ls : List (List Int × Nat × Nat)} {st en ks b : Nat} {lc : Int} (hls : ∀ q ∈ ls, st ≤ q.2.2 ∧ q.2.2 ≤ en) (hns : ns.length ≤ 32) : ∀ (d a : Nat) (z : jL), (fLines tx d a).1 = true → st ≤ z.1.length → ks ≤ z.2.2.1.length → (lbs tx d a z.1.length).2 = en → (lnL tx ns us fl bl ls en b lc st d a z).1 = none → wZ ns us fl bl st en ks b lc z → wZ ns us fl bl st en ks b lc (lnL tx ns us fl bl ls en b lc st d a z).2 ∧ zExt z (lnL tx ns us fl bl ls en b lc st d a z).2 ∧ clz st (lnL tx ns us fl bl ls en b lc st d a z).2.1 = true ∧ (lnL tx ns us fl bl ls en b lc st d a z).2.1.length = en := by
  intro d
  induction d with
  | zero => intro a z h; cases h
  | succ d ih =>
    intro a z h hst hks hen hn hz
    rw [fLines] at h
    rw [lnL] at hn ⊢
    rw [lbs] at hen
    cases h58 : fW tx 58 a with
    | true =>
      rw [h58] at hn hen
      simp only [if_true] at hn hen ⊢
      by_cases c : clz st z.1 = true
      · rw [if_pos c]; exact ⟨hz, zExt_rfl z, c, hen⟩
      · rw [if_neg c] at hn; cases hn
    | false =>
      rw [h58] at h hn hen
      simp only [Bool.false_eq_true, if_false] at h hn hen ⊢
      obtain ⟨h1, h2, -⟩ := sq_ok h
      cases hs : lnS tx ns us fl bl ls en b lc a z with
      | mk r w =>
        rw [hs] at hn
        cases r with
        | some y => cases hn
        | none =>
          obtain ⟨k1, k2⟩ := lnS_w (st := st) (ks := ks) hls hns h1 hst hks (by rw [hs]) hz
          rw [hs] at k1 k2
          have k1 : wZ ns us fl bl st en ks b lc w := k1
          have k2 : zExt z w := k2
          obtain ⟨⟨t1, e1⟩, ⟨t2, e2⟩, ⟨t3, e3⟩⟩ := id k2
          have hen' : (lbs tx d (fLine tx a).2 w.1.length).2 = en := by
            have h5 := congrArg (fun q => q.2.1) hs
            have h6 := congrArg (fun q => q.1) hs
            unfold lnS at h5 h6
            rcases ln_kind h1 with ⟨g1, g2, g3⟩ | ⟨g0, g1, -, -, -, g2, g3⟩ | ⟨g1, g2, g3, g4, g5⟩
            · rw [if_pos g1] at h5 h6 hen
              cases hf : lfd (tx.getD a []) ls with
              | none => rw [hf] at h6; cases h6
              | some q =>
                rw [hf] at h5 h6
                dsimp only at h5 h6
                by_cases c : q.1 = a
                · rw [if_pos c] at h5
                  have h7 : z.1 = w.1 := h5
                  rw [← h7, g3]
                  exact hen
                · rw [if_neg c] at h6; cases h6
            · rw [if_neg (show ¬ fW tx 59 (a + 1) = true by rw [g0]; decide), if_pos g1] at h5 h6 hen
              split at h6
              · cases h6
              rename_i c1
              rw [if_neg c1] at h5
              split at h6
              · cases h6
              rename_i c2
              rw [if_neg c2] at h5
              split at h6
              · cases h6
              rename_i c3
              rw [if_neg c3] at h5
              split at h6
              · cases h6
              rename_i c4
              rw [if_neg c4] at h5
              split at h6
              · cases h6
              rename_i c5
              rw [if_neg c5] at h5
              have h7 : z.1 = w.1 := h5
              rw [← h7, g3]
              exact hen
            · rw [if_neg (show ¬ fW tx 59 (a + 1) = true by rw [g1]; decide), if_neg (show ¬ fW tx 46 a = true by rw [g2]; decide)] at h5 h6 hen
              by_cases c1 : 1024 ≤ z.1.length ∨ ((fO tx a = 30 ∨ fO tx a = 31) ∧ 48 ≤ z.2.1.length)
              · rw [if_pos c1] at h6; cases h6
              · rw [if_neg c1] at h5 h6
                cases hX : oX tx ns us fl bl ls en lc (fO tx a).toNat (a + 1) with
                | none => rw [hX] at h6; cases h6
                | some q =>
                  rw [hX] at h5
                  have h7 : z.1 ++ [((fO tx a).toNat, q.1, if (fO tx a).toNat = 30 ∨ (fO tx a).toNat = 31 then (z.2.1.length : Int) else q.2, b, a)] = w.1 := h5
                  rw [← h7, List.length_append, List.length_cons, List.length_nil]
                  exact hen
          obtain ⟨i1, i2, i3, i4⟩ := ih (fLine tx a).2 w h2 (by rw [e1, List.length_append]; omega) (by rw [e3, List.length_append]; omega) hen' hn k1
          exact ⟨i1, zExt_trans k2 i2, i3, i4⟩
/-- what is true of a body's lines in the end -/
def wB (ns : List (List Int)) (us : List Int) (fl : List (List Int × Nat × Int)) (bl : List jB) (z : jL) (b : Nat) (x : jB) (e : Nat × Nat × Nat × Nat) : Prop := clz e.1 (z.1.take e.2.1) = true ∧ e.1 < e.2.1 ∧ e.2.1 ≤ z.1.length ∧ (∀ (i : Nat) (y : jC), e.1 ≤ i → i < e.2.1 → z.1[i]? = some y → y.2.2.2.1 = b ∧ cW ns us fl bl z.2.1 e.1 e.2.1 x.lc y) ∧ e.2.2.1 ≤ e.2.2.2 ∧ e.2.2.2 ≤ z.2.2.1.length ∧ (∀ (k : Nat) (y : Nat × Nat × Nat × Nat × Nat), z.2.2.1[k]? = some y → (y.1 = b ↔ e.2.2.1 ≤ k ∧ k < e.2.2.2)) ∧ ∀ (k : Nat) (y : Nat × Nat × Nat × Nat × Nat), z.2.2.1[k]? = some y → y.1 = b → kWf ns us e.1 e.2.1 b y
/-- every instruction lies in its body -/
def wA (z : jL) (b : Nat) (el : List (Nat × Nat × Nat × Nat)) : Prop := (∀ (i : Nat) (y : jC), z.1[i]? = some y → y.2.2.2.1 < b ∧ ∃ e, el[y.2.2.2.1]? = some e ∧ e.1 ≤ i ∧ i < e.2.1) ∧ ∀ (k : Nat) (y : Nat × Nat × Nat × Nat × Nat), z.2.2.1[k]? = some y → y.1 < b
theorem fLn_w (hns : ns.length ≤ 32) {p : Nat} (hP : bP tx bl p) : ∀ (d b : Nat) (z : jL) (el : List (Nat × Nat × Nat × Nat)), bl.length < b + d → b ≤ bl.length → el.length = b → (∀ b' x e, bl[b']? = some x → el[b']? = some e → wB ns us fl bl z b' x e) → wA z b el → (fLn tx ns us fl bl d b z el).1 = none → (∀ b' x e, bl[b']? = some x → (fLn tx ns us fl bl d b z el).2.2[b']? = some e → wB ns us fl bl (fLn tx ns us fl bl d b z el).2.1 b' x e) ∧ wA (fLn tx ns us fl bl d b z el).2.1 bl.length (fLn tx ns us fl bl d b z el).2.2 := by
  intro d
  induction d with
  | zero => intro b z el h1 h2; omega
  | succ d ih =>
    intro b z el h1 hb hel hw ha hn
    rw [fLn] at hn ⊢
    cases hx : bl[b]? with
    | none =>
      rw [hx] at hn
      dsimp only
      have : bl.length ≤ b := by
        by_cases q : b < bl.length
        · rw [List.getElem?_eq_getElem q] at hx; cases hx
        · omega
      have e : b = bl.length := by omega
      rw [e] at ha
      exact ⟨hw, ha⟩
    | some x =>
      rw [hx] at hn
      dsimp only at hn ⊢
      have hbl := at_lt hx
      obtain ⟨p1, p2, p3⟩ := hP.1 x (List.mem_of_getElem? hx)
      obtain ⟨l1, l2, l3, l4⟩ := lbs_ok 20000 (x.op + 1) z.1.length p1
      cases hs : lnL tx ns us fl bl (lbs tx 20000 (x.op + 1) z.1.length).1 (lbs tx 20000 (x.op + 1) z.1.length).2 b x.lc z.1.length 20000 (x.op + 1) z with
      | mk r w =>
        rw [hs] at hn
        cases r with
        | some y => cases hn
        | none =>
          dsimp only at hn ⊢
          obtain ⟨k1, k2, k3, k4⟩ := lnL_w (tx := tx) (ns := ns) (us := us) (fl := fl) (bl := bl) (ls := (lbs tx 20000 (x.op + 1) z.1.length).1) (st := z.1.length) (en := (lbs tx 20000 (x.op + 1) z.1.length).2) (ks := z.2.2.1.length) (b := b) (lc := x.lc) (fun q hq => ⟨(l1 q hq).2.2.2.1, (l1 q hq).2.2.2.2⟩) hns 20000 (x.op + 1) z p1 (Nat.le_refl _) (Nat.le_refl _) rfl (by rw [hs]) ⟨fun i x hi hx => (by have := at_lt hx; omega), fun k x hk hx => by have := at_lt hx; omega⟩
          rw [hs] at k1 k2 k3 k4
          have k1 : wZ ns us fl bl z.1.length (lbs tx 20000 (x.op + 1) z.1.length).2 z.2.2.1.length b x.lc w := k1
          have k2 : zExt z w := k2
          have k3 : clz z.1.length w.1 = true := k3
          have k4 : w.1.length = (lbs tx 20000 (x.op + 1) z.1.length).2 := k4
          obtain ⟨⟨t1, e1⟩, ⟨t2, e2⟩, ⟨t3, e3⟩⟩ := id k2
          have hlen1 : w.1.length = z.1.length + t1.length := by rw [e1, List.length_append]
          have hlen3 : w.2.2.1.length = z.2.2.1.length + t3.length := by rw [e3, List.length_append]
          have hst : z.1.length < w.1.length := by
            unfold clz at k3
            rw [Bool.and_eq_true] at k3
            exact of_decide_eq_true k3.1
          rw [← k4] at hn ⊢
          have old1 : ∀ (i : Nat) (y : jC), i < z.1.length → (w.1[i]? = some y ↔ z.1[i]? = some y) := fun i y hi => by rw [e1, List.getElem?_append_left hi]
          have old3 : ∀ (k : Nat) (y : Nat × Nat × Nat × Nat × Nat), k < z.2.2.1.length → (w.2.2.1[k]? = some y ↔ z.2.2.1[k]? = some y) := fun k y hk => by rw [e3, List.getElem?_append_left hk]
          refine ih (b + 1) w (el ++ [(z.1.length, w.1.length, z.2.2.1.length, w.2.2.1.length)]) (by omega) (by omega) (by rw [List.length_append, List.length_cons, List.length_nil]; omega) ?_ ?_ hn
          · intro b' x' e' hx' he'
            rcases fl_case he' with ⟨q1, q2⟩ | ⟨q1, q2⟩
            · obtain ⟨w1, w2, w3, w4, w5, w6, w7, w8⟩ := hw b' x' e' hx' q2
              refine ⟨?_, w2, by omega, fun i y hi1 hi2 hy => ?_, w5, by omega, fun k y hy => ?_, fun k y hy hb' => ?_⟩
              · rw [e1, List.take_append_of_le_length w3]; exact w1
              · obtain ⟨v1, v2⟩ := w4 i y hi1 hi2 ((old1 i y (by omega)).mp hy)
                exact ⟨v1, by rw [e2]; exact cW_sl v2⟩
              · by_cases q : k < z.2.2.1.length
                · exact w7 k y ((old3 k y q).mp hy)
                · have := (k1.2 k y (by omega) hy).1
                  constructor
                  · intro e; omega
                  · intro e; omega
              · by_cases q : k < z.2.2.1.length
                · exact w8 k y ((old3 k y q).mp hy) hb'
                · have := (k1.2 k y (by omega) hy).1
                  omega
            · rw [hel] at q1
              subst q1
              rw [hx] at hx'
              cases hx'
              rw [q2]
              refine ⟨?_, hst, Nat.le_refl _, fun i y hi1 hi2 hy => ?_, by show z.2.2.1.length ≤ w.2.2.1.length; omega, Nat.le_refl _, fun k y hy => ?_, fun k y hy hb' => ?_⟩
              · show clz z.1.length (w.1.take w.1.length) = true
                rw [List.take_of_length_le (Nat.le_refl _)]; exact k3
              · have := k1.1 i y hi1 hy
                rw [← k4] at this
                exact this
              · have hk := at_lt hy
                show y.1 = b' ↔ z.2.2.1.length ≤ k ∧ k < w.2.2.1.length
                by_cases q : k < z.2.2.1.length
                · have := ha.2 k y ((old3 k y q).mp hy)
                  constructor
                  · intro e; omega
                  · intro e; omega
                · have := (k1.2 k y (by omega) hy).1
                  exact ⟨fun _ => ⟨by omega, hk⟩, fun _ => this⟩
              · by_cases q : k < z.2.2.1.length
                · have := ha.2 k y ((old3 k y q).mp hy)
                  omega
                · have := k1.2 k y (by omega) hy
                  rw [← k4] at this
                  exact this
          · refine ⟨fun i y hy => ?_, fun k y hy => ?_⟩
            · have hi := at_lt hy
              by_cases q : i < z.1.length
              · obtain ⟨v1, e, v2, v3⟩ := ha.1 i y ((old1 i y q).mp hy)
                exact ⟨by omega, e, by rw [List.getElem?_append_left (by omega)]; exact v2, v3⟩
              · have := (k1.1 i y (by omega) hy).1
                refine ⟨by omega, (z.1.length, w.1.length, z.2.2.1.length, w.2.2.1.length), ?_, by show z.1.length ≤ i; omega, hi⟩
                rw [this, ← hel, List.getElem?_append_right (Nat.le_refl _), Nat.sub_self]
                rfl
            · by_cases q : k < z.2.2.1.length
              · have := ha.2 k y ((old3 k y q).mp hy); omega
              · have := (k1.2 k y (by omega) hy).1; omega
end WG
