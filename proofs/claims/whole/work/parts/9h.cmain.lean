/-! Which body runs, main: the class. -/
def mnL (ns : List (List Int)) : List jB → Nat → Int
  | [], _ => -1
  | x :: l, b => if ns.getD x.ow [] = fx.getD 68 [] ∧ x.nm = fx.getD 69 [] then (if x.me = false ∧ x.ps.length = 0 ∧ x.rs = -1 then (b : Int) else -1) else mnL ns l (b + 1)
/-- names of classes are different -/
def nsD (ns : List (List Int)) : Prop := ∀ (i j : Nat) (l : List Int), ns[i]? = some l → ns[j]? = some l → i = j
theorem amx_no {l : List Int} : ∀ (ws : List (List Int)) (j : Int), 0 ≤ j → amx l ws j < 0 → ∀ i : Nat, ws[i]? ≠ some l := by
  intro ws
  induction ws with
  | nil => intro j _ _ i h; cases h
  | cons w ws ih =>
    intro j hj h i hi
    rw [amx] at h
    by_cases q : l = w
    · rw [if_pos q] at h; omega
    · rw [if_neg q] at h
      cases i with
      | zero => exact q (by simpa using hi.symm)
      | succ i => exact ih (j + 1) (by omega) h i (by simpa using hi)
theorem amx_nsD {ns : List (List Int)} (hD : nsD ns) {i : Nat} (hi : i < ns.length) (l : List Int) : ns.getD i [] = l ↔ amx l ns 0 = (i : Int) := by
  have hg : ns[i]? = some (ns.getD i []) := by rw [List.getD_eq_getElem?_getD, List.getElem?_eq_getElem hi]; rfl
  constructor
  · intro h
    rw [h] at hg
    by_cases q : 0 ≤ amx l ns 0
    · obtain ⟨k, k1, k2⟩ := amx_get ns 0 (by decide) q
      have := hD k i l k2 hg
      omega
    · exact absurd hg (amx_no ns 0 (by decide) (by omega) i)
  · intro h
    obtain ⟨k, k1, k2⟩ := amx_get ns 0 (by decide) (show 0 ≤ amx l ns 0 by omega)
    have : k = i := by omega
    subst this
    rw [List.getD_eq_getElem?_getD, k2]
    rfl
theorem kC8_D : nsD kC8 := by
  intro i j l h1 h2
  have a1 := at_lt h1
  have a2 := at_lt h2
  rw [kC8_len] at a1 a2
  rw [kC8_at i a1] at h1
  rw [kC8_at j a2] at h2
  have := fx_inj (60 + i) (by omega) (60 + j) (by omega) (by rw [Option.some.inj h1, Option.some.inj h2])
  omega
theorem fCls_D {tx : List (List Int)} : ∀ (d a : Nat) (ns : List (List Int)) (us : List Int), nsD ns → nsD (fCls tx d a ns us).2.1 := by
  intro d
  induction d with
  | zero => intro a ns us h; exact h
  | succ d ih =>
    intro a ns us h
    rw [fCls]
    split
    · exact h
    · split
      · exact h
      · split
        · exact h
        · rename_i q _
          refine ih _ _ _ (fun i j l h1 h2 => ?_)
          have hno := amx_no ns 0 (by decide) (show amx (tx.getD (a + 1) []) ns 0 < 0 by omega)
          rcases fl_case h1 with ⟨l1, e1⟩ | ⟨l1, e1⟩
          · rcases fl_case h2 with ⟨l2, e2⟩ | ⟨l2, e2⟩
            · exact h i j l e1 e2
            · rw [e2] at e1; exact absurd e1 (hno i)
          · rcases fl_case h2 with ⟨l2, e2⟩ | ⟨l2, e2⟩
            · rw [e1] at e2; exact absurd e2 (hno j)
            · omega
theorem fMem_ow {tx ns : List (List Int)} {us : List Int} {j : Nat} (hj : 8 ≤ j) : ∀ (d a : Nat) (fl : List (List Int × Nat × Int)) (bl : List jB), (∀ x ∈ bl, 8 ≤ x.ow) → (∀ x ∈ fl, 8 ≤ x.2.1) → (∀ x ∈ (fMem tx ns us j d a fl bl).2.2, 8 ≤ x.ow) ∧ ∀ x ∈ (fMem tx ns us j d a fl bl).2.1, 8 ≤ x.2.1 := by
  intro d
  induction d with
  | zero => intro a fl bl h h2; exact ⟨h, h2⟩
  | succ d ih =>
    intro a fl bl h h2
    rw [fMem]
    split
    · exact ⟨h, h2⟩
    · split
      · have hs : ∀ x ∈ (fStep tx ns us j a fl).2, 8 ≤ x.2.1 := by
          unfold fStep
          split
          · exact h2
          · split
            · exact h2
            · intro x hx
              rcases List.mem_append.mp hx with e | e
              · exact h2 x e
              · have e2 : x = (tx.getD (a + 1) [], j, tyC ns (tx.getD (a + 2) [])) := by simpa using e
                rw [e2]
                exact hj
        cases hq : fStep tx ns us j a fl with
        | mk r l =>
          rw [hq] at hs
          cases r with
          | some y => exact ⟨h, hs⟩
          | none => exact ih _ l bl h hs
      · have hs : ∀ x ∈ (bStep tx ns us j a bl).2, 8 ≤ x.ow := by
          unfold bStep
          split
          · exact h
          · split
            · exact h
            · split
              · exact h
              · split
                · exact h
                · split
                  · exact h
                  · intro x hx
                    rcases List.mem_append.mp hx with e | e
                    · exact h x e
                    · have e2 : x = nB tx ns j a := by simpa using e
                      rw [e2]
                      exact hj
        cases hq : bStep tx ns us j a bl with
        | mk r l =>
          rw [hq] at hs
          cases r with
          | some y => exact ⟨hs, h2⟩
          | none => exact ih _ fl l hs h2
theorem fMcs_ow {tx ns : List (List Int)} {us : List Int} : ∀ (d c : Nat) (fl : List (List Int × Nat × Int)) (bl : List jB), 8 ≤ c → (∀ x ∈ bl, 8 ≤ x.ow) → (∀ x ∈ fl, 8 ≤ x.2.1) → (∀ x ∈ (fMcs tx ns us d c fl bl).2.2, 8 ≤ x.ow) ∧ ∀ x ∈ (fMcs tx ns us d c fl bl).2.1, 8 ≤ x.2.1 := by
  intro d
  induction d with
  | zero => intro c fl bl _ h h2; exact ⟨h, h2⟩
  | succ d ih =>
    intro c fl bl hc h h2
    rw [fMcs]
    split
    · exact ⟨h, h2⟩
    · have := fMem_ow (tx := tx) (ns := ns) (us := us) hc 20000 (cAt tx (c - 8) + 5) fl bl h h2
      cases hq : fMem tx ns us c 20000 (cAt tx (c - 8) + 5) fl bl with
      | mk r l =>
        obtain ⟨l, k⟩ := l
        rw [hq] at this
        cases r with
        | some y => exact this
        | none => exact ih (c + 1) l k (by omega) this.1 this.2
section CMN
variable {tx : List (List Int)} {Q c : Nat} {ns : List (List Int)} {us : List Int} {bl : List jB}
theorem c_fillL (hQ : Q = 13 ∨ Q = 49) (hu : uOk us) (hO : bOk us bl) (h8 : ∀ x ∈ bl, 8 ≤ x.ow) : ∀ (e j b m : Nat) (S : nk_S), CF S tx c → cRu S Q c ns us bl → j + e = ns.length → 8 ≤ j → e < m → b ≤ bl.length → (∀ i x, bl[i]? = some x → b ≤ i → j ≤ x.ow) → (∀ i x, bl[i]? = some x → i < b → x.ow < j) → (∀ c' i x, c' < j → bl[i]? = some x → S.1 (Q + 22) (c' * 48 + i) = rnS us bl c' x) → ∃ S', ja_X0_fillRuns_L13 m (Q + 9) (Q + 1) (b : Int) (j : Int) S = some (0, S') ∧ S'.2 = S.2 ∧ (∀ d, d ≠ Q + 22 → S'.1 d = S.1 d) ∧ ∀ c' i x, c' < ns.length → bl[i]? = some x → S'.1 (Q + 22) (c' * 48 + i) = rnS us bl c' x := by
  intro e
  induction e with
  | zero =>
    intro j b m S hC hR h1 hj8 h2 hbl ha hb hv
    obtain ⟨m, rfl⟩ : ∃ q, m = q + 1 := ⟨m - 1, by omega⟩
    refine ⟨S, ?_, rfl, fun _ _ => rfl, fun c' i x hc hx => hv c' i x (by omega) hx⟩
    show ja_X0_fillRuns_b13 (ja_X0_fillRuns_L13 m) (Q + 9) (Q + 1) (b : Int) (j : Int) S = _
    unfold ja_X0_fillRuns_b13
    rw [hR.1.1, if_pos (by omega)]
  | succ e ih =>
    intro j b m S hC hR h1 hj8 h2 hbl ha hb hv
    obtain ⟨m, rfl⟩ : ∃ q, m = q + 1 := ⟨m - 1, by omega⟩
    have hns := hR.1.2.2.1
    have hul := hR.1.2.2.2.1
    have h48 := hO.1
    obtain ⟨u, u1, u2⟩ := hu.2 j (by omega) (by omega)
    obtain ⟨T, hT⟩ : ∃ T, T = nk_cp S (Q + 22) (u * 48) (Q + 22) (j * 48) 48 := ⟨_, rfl⟩
    have tn : ∀ d, d ≠ Q + 22 → T.1 d = S.1 d := fun d hd => by rw [hT]; exact cp_n hd
    have t22 : ∀ i, T.1 (Q + 22) i = if j * 48 ≤ i ∧ i < j * 48 + 48 then S.1 (Q + 22) (u * 48 + (i - j * 48)) else S.1 (Q + 22) i := fun i => by
      rw [hT, cp_v]
      by_cases q : j * 48 ≤ i ∧ i < j * 48 + 48
      · rw [if_pos ⟨rfl, q⟩, if_pos q]
      · rw [if_neg (fun h => q h.2), if_neg q]
    have CT : CF T tx c := CF_c (tn 2 (by omega)) (tn 3 (by omega)) (tn 4 (by omega)) (tn 5 (by omega)) (tn 6 (by omega)) (tn 9 (by omega)) hC
    have RT := cRu_c hQ tn hR
    obtain ⟨bm, hbm⟩ := big_ge 100 (by decide)
    have hrow : ∀ i x, bl[i]? = some x → T.1 (Q + 22) (j * 48 + i) = rnI us bl j b i x := by
      intro i x hx
      have hi := at_lt hx
      rw [t22, if_pos (by omega), show j * 48 + i - j * 48 = i by omega, hv u i x u2 hx]
      unfold rnS rnI
      by_cases q : i < b
      · have e1 : x.ow < j := hb i x hx q
        have e2 : anc us j x.ow = anc us u x.ow := by rw [anc_s hu (by omega) (by omega) (by omega) u1, decide_eq_false (by omega), Bool.false_or]
        rw [e2]
        by_cases q2 : anc us u x.ow = true
        · rw [if_pos q2, if_pos ⟨q, q2⟩, ← bdL_cut (e := b) (fun k y hk hy hc => by
            have f1 := ha k y hy hk
            have f2 := anc_le hu (by omega) _ u y.ow (Nat.lt_succ_self u) (by omega) hc.2
            omega)]
          refine bdL_cg _ _ _ (fun y hy _ => ?_)
          obtain ⟨k, hk, ey⟩ := List.mem_iff_getElem.mp hy
          rw [List.length_take] at hk
          rw [List.getElem_take] at ey
          have f3 : y.ow < j := hb k y (by rw [List.getElem?_eq_getElem (by omega), ey]) (by omega)
          rw [anc_s hu (by omega) (by omega) (by omega) u1, decide_eq_false (by omega), Bool.false_or]
        · rw [if_neg q2, if_neg (fun h => q2 h.2)]
      · have e1 := ha i x hx (by omega)
        rw [if_neg (show ¬ anc us u x.ow = true from fun h => by
          have := anc_le hu (by omega) _ u x.ow (Nat.lt_succ_self u) (by omega) h
          omega), if_neg (fun h => q h.1)]
    obtain ⟨V, b', v1, v0, v2, v3, v4, v5, v6, v7⟩ := c_runI hQ hu (by omega) (j := j) hO (by omega) (by omega) (rec13 := ja_X0_fillRuns_L13 m) (bl.length - b) b nk_big T CT RT (by omega) (by omega) ha (fun i x hx hi => Nat.le_of_lt (hb i x hx hi)) hrow
    have hstep : ja_X0_fillRuns_L13 (m + 1) (Q + 9) (Q + 1) (b : Int) (j : Int) S = ja_X0_fillRuns_L46 (ja_X0_fillRuns_L13 m) nk_big (Q + 9) (Q + 1) (b : Int) (j : Int) T := by
      show ja_X0_fillRuns_b13 (ja_X0_fillRuns_L13 m) (Q + 9) (Q + 1) (b : Int) (j : Int) S = _
      have eu : ja_X1_upOf (Q + 1) (j : Int) S = some ((u : Int), S) := by
        unfold ja_X1_upOf
        rw [if_pos (in_i (N := 32) (by omega)), (jc_Q hQ).2.1, Int.toNat_natCast, hR.1.2.2.2.2.1 j (by omega), u1]
      have w1 : nk_w ((u : Int) * 48) = ((u * 48 : Nat) : Int) := by
        rw [show (u : Int) * 48 = ((u * 48 : Nat) : Int) by omega]
        exact w_n0 (by omega)
      have w2 : nk_w ((j : Int) * 48) = ((j * 48 : Nat) : Int) := by
        rw [show (j : Int) * 48 = ((j * 48 : Nat) : Int) by omega]
        exact w_n0 (by omega)
      have hin : 0 ≤ ((u * 48 : Nat) : Int) ∧ 0 ≤ ((j * 48 : Nat) : Int) ∧ 0 ≤ (48 : Int) ∧ ((u * 48 : Nat) : Int) + (48 : Int) ≤ 1536 ∧ ((j * 48 : Nat) : Int) + (48 : Int) ≤ 1536 := by clear w1 w2; omega
      have hnl : ¬ (ns.length : Int) ≤ (j : Int) := by clear w1 w2; omega
      unfold ja_X0_fillRuns_b13
      rw [hR.1.1, if_neg hnl, eu, bd_some, w1, w2, if_pos hin, lt_eq, (jc_Qb hQ).2.2.2.2.2, Int.toNat_natCast, Int.toNat_natCast, ← hT]
    have CV : CF V tx c := CF_c (v3 2 (by omega)) (v3 3 (by omega)) (v3 4 (by omega)) (v3 5 (by omega)) (v3 6 (by omega)) (v3 9 (by omega)) CT
    obtain ⟨S', i1, i2, i3, i4⟩ := ih (j + 1) b' m V CV (cRu_c hQ v3 RT) (by omega) (by omega) (by omega) v0 v5 v6 (fun c' i x hc hx => by
      have hi := at_lt hx
      by_cases q : c' = j
      · subst q; exact v7 i x hx
      · rw [v4 _ (by omega), t22, if_neg (by omega)]
        exact hv c' i x (by omega) hx)
    refine ⟨S', by rw [hstep, v1]; exact i1, by rw [i2, v2, hT]; rfl, fun d hd => by rw [i3 d hd, v3 d hd, tn d hd], i4⟩
theorem c_fill (hQ : Q = 13 ∨ Q = 49) (hu : uOk us) (hO : bOk us bl) (h8 : ∀ x ∈ bl, 8 ≤ x.ow) {S : nk_S} (hC : CF S tx c) (hR : cRu S Q c ns us bl) : ∃ S', ja_X0_fillRuns (Q + 9) (Q + 1) S = some (0, S') ∧ S'.2 = S.2 ∧ (∀ d, d ≠ Q + 22 → S'.1 d = S.1 d) ∧ ∀ c' i x, c' < ns.length → bl[i]? = some x → S'.1 (Q + 22) (c' * 48 + i) = rnS us bl c' x := by
  obtain ⟨T, t1, t2, t3, t4⟩ := fill_i (l0 := Q + 22) (n := 1536) (x := -1) (by decide) S
  have CT : CF T tx c := CF_c (t3 2 (by omega)) (t3 3 (by omega)) (t3 4 (by omega)) (t3 5 (by omega)) (t3 6 (by omega)) (t3 9 (by omega)) hC
  have RT := cRu_c hQ t3 hR
  obtain ⟨m, hm⟩ := big_ge 100 (by decide)
  have hns := hR.1.2.2.1
  have hns8 := hR.1.2.1
  have hul := hR.1.2.2.2.1
  have h48 := hO.1
  obtain ⟨S', i1, i2, i3, i4⟩ := c_fillL hQ hu hO h8 (ns.length - 8) 8 0 nk_big T CT RT (by omega) (by omega) (by omega) (by omega) (fun i x hx _ => h8 x (List.mem_of_getElem? hx)) (fun i x _ h => by omega) (fun c' i x hc hx => by
    have hi := at_lt hx
    have ho := h8 x (List.mem_of_getElem? hx)
    rw [t4, if_pos (by omega)]
    unfold rnS
    rw [if_neg (fun h => by
      have := anc_le hu (by omega) _ c' x.ow (Nat.lt_succ_self c') (by omega) h
      omega)])
  refine ⟨S', ?_, i2.trans t2, fun d hd => by rw [i3 d hd, t3 d hd], i4⟩
  unfold ja_X0_fillRuns
  rw [(jc_Qb hQ).2.2.2.2.2, t1, bd_some]
  exact i1
theorem c_mainL (hQ : Q = 13 ∨ Q = 49) {S : nk_S} (hC : CF S tx c) (hB : cBl S Q c bl) (hD : nsD ns) (h48 : bl.length ≤ 48) (hOw : ∀ (b : Nat) (x : jB), bl[b]? = some x → x.ow < ns.length) : ∀ (e b m : Nat), b + e = bl.length → e < m → ja_X0_mainOf_L2 m (Q + 9) (amx (fx.getD 68 []) ns 0) (b : Int) S = some (mnL ns (bl.drop b) b, S) := by
  intro e
  induction e with
  | zero =>
    intro b m h1 h2
    obtain ⟨m, rfl⟩ : ∃ q, m = q + 1 := ⟨m - 1, by omega⟩
    show ja_X0_mainOf_b2 (ja_X0_mainOf_L2 m) (Q + 9) (amx (fx.getD 68 []) ns 0) (b : Int) S = _
    unfold ja_X0_mainOf_b2
    rw [hB.1, if_pos (by omega), List.drop_eq_nil_of_le (by omega)]
    rfl
  | succ e ih =>
    intro b m h1 h2
    obtain ⟨m, rfl⟩ : ∃ q, m = q + 1 := ⟨m - 1, by omega⟩
    show ja_X0_mainOf_b2 (ja_X0_mainOf_L2 m) (Q + 9) (amx (fx.getD 68 []) ns 0) (b : Int) S = _
    obtain ⟨x, x1, x2⟩ := drop_at (show b < bl.length by omega)
    obtain ⟨y1, ⟨w, w1, w2, w3⟩, y3, y4, y5, y6, -⟩ := hB.2 b x x1
    have hnx := ih (b + 1) m (by omega) (by omega)
    rw [← w_nat1 (by omega)] at hnx
    have hcl := amx_nsD hD (hOw b x x1) (fx.getD 68 [])
    have hnm : ((w : Int) = 69) ↔ x.nm = fx.getD 69 [] := by
      rw [← w3]
      exact cw_word hC (w := 69) (by decide) w1
    unfold ja_X0_mainOf_b2
    rw [hB.1, if_neg (by omega), if_pos (in_i (N := 48) (by omega)), (jc_Q9 hQ).1, (jc_Q9 hQ).2.1, (jc_Q9 hQ).2.2.1, (jc_Q9 hQ).2.2.2.1, (jc_Q9 hQ).2.2.2.2.2.1, Int.toNat_natCast, y1, w2, y3, y4, y6, x2, mnL]
    by_cases q1 : ns.getD x.ow [] = fx.getD 68 []
    · rw [if_pos (show (x.ow : Int) = amx (fx.getD 68 []) ns 0 from (hcl.mp q1).symm)]
      by_cases q2 : x.nm = fx.getD 69 []
      · rw [if_pos (hnm.mpr q2), if_pos (show ns.getD x.ow [] = fx.getD 68 [] ∧ x.nm = fx.getD 69 [] from ⟨q1, q2⟩)]
        cases hme : x.me with
        | true => rw [if_neg (show ¬ bi true = 0 by decide), if_neg (fun h => by cases h.1)]
        | false =>
          rw [if_pos (show bi false = 0 from rfl)]
          by_cases q3 : x.ps.length = 0
          · rw [if_pos (show (x.ps.length : Int) = 0 by omega)]
            by_cases q4 : x.rs = -1
            · rw [if_pos q4, if_pos (show false = false ∧ x.ps.length = 0 ∧ x.rs = -1 from ⟨rfl, q3, q4⟩)]
            · rw [if_neg q4, if_neg (fun h => q4 h.2.2)]
          · rw [if_neg (show ¬ (x.ps.length : Int) = 0 by omega), if_neg (fun h => q3 h.2.1)]
      · rw [if_neg (fun h => q2 (hnm.mp h)), if_neg (fun h => q2 h.2), lt_eq, hnx]
    · rw [if_neg (show ¬ (x.ow : Int) = amx (fx.getD 68 []) ns 0 from fun h => q1 (hcl.mpr h.symm)), if_neg (fun h => q1 h.1), lt_eq, hnx]
end CMN
