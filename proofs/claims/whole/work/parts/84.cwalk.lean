/-! Members: the class's walk over all. -/
def clsK (tx : List (List Int)) (a : Nat) : Prop := a < tx.length ∧ fW tx 47 a = true ∧ fC tx (a + 1) = true ∧ fW tx 48 (a + 2) = true ∧ fC tx (a + 3) = true ∧ fW tx 57 (a + 4) = true ∧ (fMembers tx 20000 20000 (a + 5)).1 = true
theorem fCls_end {tx : List (List Int)} : ∀ (d a : Nat) (ns : List (List Int)) (us : List Int), (fProg tx 20000 d a).1 = true → a = cAt tx (ns.length - 8) → 8 ≤ ns.length → (fCls tx d a ns us).1 = none → tx.length ≤ cAt tx ((fCls tx d a ns us).2.1.length - 8) ∧ ns.length ≤ (fCls tx d a ns us).2.1.length ∧ ∀ k, ns.length - 8 ≤ k → k < (fCls tx d a ns us).2.1.length - 8 → clsK tx (cAt tx k) := by
  intro d
  induction d with
  | zero => intro a ns us h; cases h
  | succ d ih =>
    intro a ns us h hat h8 hn
    rw [fCls] at hn ⊢
    by_cases q : tx.length ≤ a
    · rw [if_pos q]
      exact ⟨by rw [← hat]; exact q, Nat.le_refl _, fun k h1 h2 => by have h3 : k < ns.length - 8 := h2; omega⟩
    · obtain ⟨k1, k2, k3, k4, k5, k6, k7⟩ := cls_kind h (by omega)
      rw [if_neg q] at hn ⊢
      by_cases q2 : 0 ≤ amx (tx.getD (a + 1) []) ns 0 ∨ 32 ≤ ns.length
      · rw [if_pos q2] at hn; cases hn
      rw [if_neg q2] at hn ⊢
      by_cases q3 : amx (tx.getD (a + 3) []) ns 0 < 0
      · rw [if_pos q3] at hn; cases hn
      rw [if_neg q3] at hn ⊢
      have hl : (ns ++ [tx.getD (a + 1) []]).length = ns.length + 1 := by rw [List.length_append]; rfl
      obtain ⟨i1, i2, i3⟩ := ih (fMembers tx 20000 20000 (a + 5)).2 (ns ++ [tx.getD (a + 1) []]) (us ++ [amx (tx.getD (a + 3) []) ns 0]) k7 (by rw [hl, show ns.length + 1 - 8 = (ns.length - 8) + 1 by omega, cAt, ← hat]) (by omega) hn
      refine ⟨i1, by omega, fun k x y => ?_⟩
      by_cases e : k = ns.length - 8
      · rw [e, ← hat]
        exact ⟨by omega, k1, k2, k3, k4, k5, k6⟩
      · exact i3 k (by omega) y
section CWM
variable {tx : List (List Int)} {Q c : Nat} {ns : List (List Int)} {us : List Int}
/-- the class's view of the members so far -/
def cVm (S : nk_S) (tx : List (List Int)) (Q c : Nat) (ns : List (List Int)) (us : List Int) (fl : List (List Int × Nat × Int)) (bl : List jB) : Prop := CF S tx c ∧ cC S Q c ns us ∧ cM S c ∧ cFl S Q c fl ∧ cBl S Q c bl ∧ S.2 85 1 = Q
def oVm (tx : List (List Int)) (ns : List (List Int)) (us : List Int) (j : Nat) (fl : List (List Int × Nat × Int)) (bl : List jB) : Prop := fOk us fl ∧ bOk us bl ∧ bTx tx ns bl ∧ (∀ x ∈ bl, x.ow ≤ j) ∧ ∀ x ∈ fl, x.2.1 ≤ j
theorem cVm_field (hQ : Q = 13 ∨ Q = 49) {S S' : nk_S} {fl fl' : List (List Int × Nat × Int)} {bl : List jB} (h : cVm S tx Q c ns us fl bl) (h1 : mF Q S S') (h2 : ∀ b, b ≠ Q + 1 → ¬ (Q + 5 ≤ b ∧ b ≤ Q + 7) → S'.1 b = S.1 b) (h3 : cFl S' Q c fl') : cVm S' tx Q c ns us fl' bl := by
  obtain ⟨v1, v2, v3, v4, v5, v6⟩ := h
  refine ⟨CF_mF hQ h1 v1, cC_mF hQ h1 v2, cM_mF hQ h1 v3, h3, ⟨by rw [h2 (Q + 9) (by omega) (by omega)]; exact v5.1, fun b x hx => ?_⟩, by rw [h1.1]; exact v6⟩
  have := v5.2 b x hx
  unfold cB1 at this ⊢
  rw [h2 (Q + 10) (by omega) (by omega), h2 (Q + 11) (by omega) (by omega), h2 (Q + 12) (by omega) (by omega), h2 (Q + 13) (by omega) (by omega), h2 (Q + 14) (by omega) (by omega), h2 (Q + 15) (by omega) (by omega), h2 (Q + 16) (by omega) (by omega), h2 (Q + 17) (by omega) (by omega)]
  simpa only [wd_mF hQ h1] using this
theorem cVm_body (hQ : Q = 13 ∨ Q = 49) {S S' : nk_S} {fl : List (List Int × Nat × Int)} {bl bl' : List jB} (h : cVm S tx Q c ns us fl bl) (h1 : mF Q S S') (h2 : ∀ b, b ≠ 85 → ¬ (Q + 9 ≤ b ∧ b ≤ Q + 17) → S'.1 b = S.1 b) (h3 : cBl S' Q c bl') : cVm S' tx Q c ns us fl bl' := by
  obtain ⟨v1, v2, v3, v4, v5, v6⟩ := h
  refine ⟨CF_mF hQ h1 v1, cC_mF hQ h1 v2, cM_mF hQ h1 v3, ⟨by rw [h2 (Q + 1) (by omega) (by omega)]; exact v4.1, fun f x hx => ?_⟩, h3, by rw [h1.1]; exact v6⟩
  have := v4.2 f x hx
  rw [h2 (Q + 5) (by omega) (by omega), h2 (Q + 6) (by omega) (by omega), h2 (Q + 7) (by omega) (by omega)]
  simpa only [wd_mF hQ h1] using this
theorem c_memL (hQ : Q = 13 ∨ Q = 49) (hu : uOk us) {j : Nat} (hj : j < ns.length) : ∀ (d a m : Nat) (fl : List (List Int × Nat × Int)) (bl : List jB) (S : nk_S), cVm S tx Q c ns us fl bl → oVm tx ns us j fl bl → (fMembers tx 20000 d a).1 = true → tx.length < a + m → ∃ S', mF Q S S' ∧ (match (fMem tx ns us j d a fl bl).1 with
    | some y => ja_X6_walkMembers_L7 m 85 1 (j : Int) (a : Int) S = some ((y : Int), S')
    | none => cVm S' tx Q c ns us (fMem tx ns us j d a fl bl).2.1 (fMem tx ns us j d a fl bl).2.2 ∧ oVm tx ns us j (fMem tx ns us j d a fl bl).2.1 (fMem tx ns us j d a fl bl).2.2 ∧ ∃ m', tx.length < (fMembers tx 20000 d a).2 + m' ∧ ja_X6_walkMembers_L7 m 85 1 (j : Int) (a : Int) S = ja_X6_walkMembers_L7 m' 85 0 (j : Int) ((fMembers tx 20000 d a).2 : Int) S') := by
  intro d
  induction d with
  | zero => intro a m fl bl S _ _ h; cases h
  | succ d ih =>
    intro a m fl bl S hV hO h hm
    have hV0 := hV
    obtain ⟨v1, v2, v3, v4, v5, v6⟩ := hV
    obtain ⟨o1, o2, o3, o4, o5⟩ := hO
    have hT := v1.2.2.2.2.1
    have hus : us.length = ns.length := v2.2.2.2.1
    have h32 := v2.2.2.1
    have hend := fMembers_ok h
    rw [fMembers] at h hend ⊢
    rw [fMem]
    obtain ⟨m, rfl⟩ : ∃ q, m = q + 1 := ⟨m - 1, by omega⟩
    cases h58 : fW tx 58 a with
    | true =>
      simp only [if_true]
      refine ⟨S, mF_rfl, hV0, ⟨o1, o2, o3, o4, o5⟩, m, by omega, ?_⟩
      show ja_X6_walkMembers_b7 (ja_X6_walkMembers_L7 m) 85 ((0 + 1 : Nat) : Int) (j : Int) (a : Int) S = _
      rw [wm_c v1 (by omega) h58]
      rfl
    | false =>
      rw [h58] at h hend
      simp only [Bool.false_eq_true, if_false] at h hend ⊢
      obtain ⟨h1, h2, h3⟩ := sq_ok h
      rw [h3] at hend ⊢
      have hal : a < tx.length := by
        by_cases e : a < tx.length
        · exact e
        · exfalso
          rcases mem_kind h1 with ⟨g1, -⟩ | ⟨g1, -⟩
          · have := fW_T g1; omega
          · rcases g1.2.1 with g | g
            · have := fW_T g; omega
            · have := fW_T g; omega
      have hstep : ja_X6_walkMembers_L7 (m + 1) 85 1 (j : Int) (a : Int) S = (if fW tx 49 a = true then nk_bd (ja_X6_resolveField 85 (a : Int) (j : Int) S) fun r5 S6 => ja_X6_walkMembers_b114 (ja_X6_walkMembers_L7 m) 85 1 (j : Int) ((a + 2 : Nat) : Int) r5 S6 else nk_bd (ja_X6_resolveHead 85 (a : Int) (j : Int) S) fun r1 S2 => nk_lt (S2.1 85 2) fun v4 => ja_X6_walkMembers_b114 (ja_X6_walkMembers_L7 m) 85 1 (j : Int) v4 r1 S2) := by
        show ja_X6_walkMembers_b7 (ja_X6_walkMembers_L7 m) 85 1 (j : Int) (a : Int) S = _
        have h57 : fW tx 57 a = false := by
          cases e : fW tx 57 a with
          | false => rfl
          | true =>
            exfalso
            rcases mem_kind h1 with ⟨g1, -⟩ | ⟨g1, -⟩
            · have := fW_two (by decide) (by decide) g1 e; omega
            · rcases g1.2.1 with g | g
              · have := fW_two (by decide) (by decide) g e; omega
              · have := fW_two (by decide) (by decide) g e; omega
        unfold ja_X6_walkMembers_b7
        rw [jc_85_0, v1.2.2.2.1, if_neg (show ¬ (tx.length : Int) ≤ (a : Int) by omega), c_at0 v1, bd_some, if_neg (show ¬ cw _ _ _ = 57 from cw_ne v1 (w := 57) (by decide) h57), if_neg (show ¬ cw _ _ _ = 58 from cw_ne v1 (w := 58) (by decide) h58), if_neg (show ¬ (1 : Int) = 0 by decide), if_pos rfl]
        cases h49 : fW tx 49 a with
        | true =>
          rw [if_pos (show cw _ _ _ = 49 from (cw_iff v1 (w := 49) (by decide) a).mpr h49), if_pos rfl, w_n2 (by omega)]
          rfl
        | false =>
          rw [if_neg (show ¬ cw _ _ _ = 49 from cw_ne v1 (w := 49) (by decide) h49), if_neg (by decide)]
          unfold ja_X6_walkMembers_b96
          rw [if_pos rfl]
      rcases mem_kind h1 with ⟨g1, g2, g3, g4⟩ | ⟨g1, g2⟩
      · rw [if_pos g1] at hstep ⊢
        obtain ⟨S1, f1, f2, f3, f4⟩ := c_rfield hQ v1 v2 v3 hu v4 o1 v6 hj g2 g3
        rw [f1, bd_some] at hstep
        cases hs : fStep tx ns us j a fl with
        | mk r l =>
          rw [hs] at hstep f4
          cases r with
          | some y =>
            refine ⟨S1, f2, ?_⟩
            show ja_X6_walkMembers_L7 (m + 1) 85 1 (j : Int) (a : Int) S = some ((y : Int), S1)
            rw [hstep]
            unfold ja_X6_walkMembers_b114
            rw [if_neg (show ¬ ccA (some y) < 0 from by show ¬ (y : Int) < 0; omega)]
            rfl
          | none =>
            have k4 := f4 rfl
            have hok := fStep_ok (tx := tx) (ns := ns) (us := us) (a := a) o1 (show j < us.length by omega) (by rw [hs])
            rw [hs] at hok
            obtain ⟨y1, y2, y3, y4, y5⟩ := hok
            have y1' : l = fl ++ [(tx.getD (a + 1) [], j, tyC ns (tx.getD (a + 2) []))] := y1
            show ∃ S', mF Q S S' ∧ (match (fMem tx ns us j d (fMember tx 20000 a).2 l bl).1 with
              | some y => ja_X6_walkMembers_L7 (m + 1) 85 1 (j : Int) (a : Int) S = some ((y : Int), S')
              | none => cVm S' tx Q c ns us (fMem tx ns us j d (fMember tx 20000 a).2 l bl).2.1 (fMem tx ns us j d (fMember tx 20000 a).2 l bl).2.2 ∧ oVm tx ns us j (fMem tx ns us j d (fMember tx 20000 a).2 l bl).2.1 (fMem tx ns us j d (fMember tx 20000 a).2 l bl).2.2 ∧ ∃ m', tx.length < (fMembers tx 20000 d (fMember tx 20000 a).2).2 + m' ∧ ja_X6_walkMembers_L7 (m + 1) 85 1 (j : Int) (a : Int) S = ja_X6_walkMembers_L7 m' 85 0 (j : Int) ((fMembers tx 20000 d (fMember tx 20000 a).2).2 : Int) S')
            have e3 : ja_X6_walkMembers_L7 (m + 1) 85 1 (j : Int) (a : Int) S = ja_X6_walkMembers_L7 m 85 1 (j : Int) ((a + 3 : Nat) : Int) S1 := by
              rw [hstep]
              exact wm_114 (by omega)
            rw [e3]
            rw [g4] at h2 ⊢
            obtain ⟨S', i1, i2⟩ := ih (a + 3) m l bl S1 (cVm_field hQ hV0 f2 f3 k4) ⟨by rw [y1']; exact y5, o2, o3, o4, fun x hx => by
              rw [y1'] at hx
              rcases List.mem_append.mp hx with e | e
              · exact o5 x e
              · have e2 : x = (tx.getD (a + 1) [], j, tyC ns (tx.getD (a + 2) [])) := by simpa using e
                rw [e2]
                exact Nat.le_refl j⟩ h2 (by omega)
            exact ⟨S', mF_trans f2 i1, i2⟩
      · have h49 : ¬ fW tx 49 a = true := by rw [g1.1]; decide
        rw [if_neg h49] at hstep ⊢
        obtain ⟨S1, f1, f2, f3, f4⟩ := c_rhead hQ v1 v2 v3 hu v5 o2 o3 v6 hj g1
        rw [f1, bd_some, lt_eq] at hstep
        cases hs : bStep tx ns us j a bl with
        | mk r l =>
          rw [hs] at hstep f4
          cases r with
          | some y =>
            refine ⟨S1, f2, ?_⟩
            show ja_X6_walkMembers_L7 (m + 1) 85 1 (j : Int) (a : Int) S = some ((y : Int), S1)
            rw [hstep]
            unfold ja_X6_walkMembers_b114
            rw [if_neg (show ¬ ccA (some y) < 0 from by show ¬ (y : Int) < 0; omega)]
            rfl
          | none =>
            obtain ⟨k4, k5⟩ := f4 rfl
            have hok := bStep_ok (tx := tx) (ns := ns) (us := us) (a := a) (j := j) hu (by omega) o2 o3 o4 (show j < us.length by omega) g1 (by rw [hs])
            rw [hs] at hok
            obtain ⟨y1, y2, y3, y4, y5, y6⟩ := hok
            have y1' : l = bl ++ [nB tx ns j a] := y1
            show ∃ S', mF Q S S' ∧ (match (fMem tx ns us j d (fMember tx 20000 a).2 fl l).1 with
              | some y => ja_X6_walkMembers_L7 (m + 1) 85 1 (j : Int) (a : Int) S = some ((y : Int), S')
              | none => cVm S' tx Q c ns us (fMem tx ns us j d (fMember tx 20000 a).2 fl l).2.1 (fMem tx ns us j d (fMember tx 20000 a).2 fl l).2.2 ∧ oVm tx ns us j (fMem tx ns us j d (fMember tx 20000 a).2 fl l).2.1 (fMem tx ns us j d (fMember tx 20000 a).2 fl l).2.2 ∧ ∃ m', tx.length < (fMembers tx 20000 d (fMember tx 20000 a).2).2 + m' ∧ ja_X6_walkMembers_L7 (m + 1) 85 1 (j : Int) (a : Int) S = ja_X6_walkMembers_L7 m' 85 0 (j : Int) ((fMembers tx 20000 d (fMember tx 20000 a).2).2 : Int) S')
            obtain ⟨z1, z2, z3, z4, z5, z6, z7⟩ := hd_kind (ns := ns) g1
            obtain ⟨o, e, b1, b2, b3, b4, b5, b6, b7, b8, b9⟩ := body_at g1
            obtain ⟨p1, p2, p3, p4, -⟩ := pT_ok (ns := ns) 20000 (a + 3) z1
            have eo : o = (pT tx ns 20000 (a + 3)).2 + 3 := by omega
            have hV1 := cVm_body hQ hV0 f2 f3 k4
            have e3 : ja_X6_walkMembers_L7 (m + 1) 85 1 (j : Int) (a : Int) S = ja_X6_walkMembers_L7 (m - (e + 1 - o)) 85 1 (j : Int) ((e + 1 : Nat) : Int) S1 := by
              rw [hstep, k5]
              show ja_X6_walkMembers_b114 (ja_X6_walkMembers_L7 m) 85 1 (j : Int) (((pT tx ns 20000 (a + 3)).2 + 2 : Nat) : Int) (-1) S1 = _
              rw [wm_114 (by omega), show (pT tx ns 20000 (a + 3)).2 + 2 + 1 = o by omega]
              have := wm_over hV1.1 (j := (j : Int)) (m := m - (e + 1 - o)) b4 b5 b7 b8 b9
              rw [show m - (e + 1 - o) + (e + 1 - o) = m by omega] at this
              exact this
            rw [e3]
            have em : (fMember tx 20000 a).2 = e + 1 := by rw [g2, b1, b2]
            rw [em] at h2 ⊢
            obtain ⟨S', i1, i2⟩ := ih (e + 1) (m - (e + 1 - o)) fl l S1 hV1 ⟨o1, by rw [y1']; exact y4, by rw [y1']; exact y5, by rw [y1']; exact y6, o5⟩ h2 (by omega)
            exact ⟨S', mF_trans f2 i1, i2⟩
theorem oVm_up {j : Nat} {fl : List (List Int × Nat × Int)} {bl : List jB} (h : oVm tx ns us j fl bl) : oVm tx ns us (j + 1) fl bl := ⟨h.1, h.2.1, h.2.2.1, fun x hx => Nat.le_succ_of_le (h.2.2.2.1 x hx), fun x hx => Nat.le_succ_of_le (h.2.2.2.2 x hx)⟩
theorem c_mcs (hQ : Q = 13 ∨ Q = 49) (hu : uOk us) (hcl : ∀ k, k < ns.length - 8 → clsK tx (cAt tx k)) (hce : tx.length ≤ cAt tx (ns.length - 8)) (h8 : 8 ≤ ns.length) : ∀ (e k m d : Nat) (fl : List (List Int × Nat × Int)) (bl : List jB) (S : nk_S), k + e = ns.length - 8 → e < d → cVm S tx Q c ns us fl bl → oVm tx ns us (7 + k) fl bl → tx.length < cAt tx k + m → cAt tx k ≤ tx.length → ∃ S', mF Q S S' ∧ ja_X6_walkMembers_L7 m 85 0 ((7 + k : Nat) : Int) (cAt tx k : Int) S = some (ccA (fMcs tx ns us d (8 + k) fl bl).1, S') ∧ ((fMcs tx ns us d (8 + k) fl bl).1 = none → cVm S' tx Q c ns us (fMcs tx ns us d (8 + k) fl bl).2.1 (fMcs tx ns us d (8 + k) fl bl).2.2 ∧ oVm tx ns us ns.length (fMcs tx ns us d (8 + k) fl bl).2.1 (fMcs tx ns us d (8 + k) fl bl).2.2) := by
  intro e
  induction e with
  | zero =>
    intro k m d fl bl S h1 h2 hV hO hm hc
    obtain ⟨d, rfl⟩ : ∃ q, d = q + 1 := ⟨d - 1, by omega⟩
    obtain ⟨m, rfl⟩ : ∃ q, m = q + 1 := ⟨m - 1, by omega⟩
    have hk : k = ns.length - 8 := by omega
    rw [fMcs, if_pos (by omega)]
    refine ⟨S, mF_rfl, ?_, fun _ => ⟨hV, hO.1, hO.2.1, hO.2.2.1, fun x hx => ?_, fun x hx => ?_⟩⟩
    · show ja_X6_walkMembers_b7 (ja_X6_walkMembers_L7 m) 85 0 ((7 + k : Nat) : Int) (cAt tx k : Int) S = _
      unfold ja_X6_walkMembers_b7
      rw [jc_85_0, hV.1.2.2.2.1, if_pos (by rw [hk]; omega)]
      rfl
    · have := hO.2.2.2.1 x hx; omega
    · have := hO.2.2.2.2 x hx; omega
  | succ e ih =>
    intro k m d fl bl S h1 h2 hV hO hm hc
    obtain ⟨d, rfl⟩ : ∃ q, d = q + 1 := ⟨d - 1, by omega⟩
    have hC := hV.1
    have hT := hC.2.2.2.2.1
    obtain ⟨c0, c1, c2, c3, c4, c5, c6⟩ := hcl k (by omega)
    have hl5 := fW_T c5
    obtain ⟨m, rfl⟩ : ∃ q, m = q + 2 := ⟨m - 2, by omega⟩
    rw [fMcs, if_neg (by omega)]
    have h57 : fW tx 57 (cAt tx k) = false := by
      cases q : fW tx 57 (cAt tx k) with
      | false => rfl
      | true => have := fW_two (by decide) (by decide) c1 q; omega
    have h58 : fW tx 58 (cAt tx k) = false := by
      cases q : fW tx 58 (cAt tx k) with
      | false => rfl
      | true => have := fW_two (by decide) (by decide) c1 q; omega
    have e1 : ja_X6_walkMembers_L7 (m + 2) 85 0 ((7 + k : Nat) : Int) (cAt tx k : Int) S = ja_X6_walkMembers_L7 m 85 1 ((8 + k : Nat) : Int) ((cAt tx k + 5 : Nat) : Int) S := by
      show ja_X6_walkMembers_b7 (ja_X6_walkMembers_L7 (m + 1)) 85 0 ((7 + k : Nat) : Int) (cAt tx k : Int) S = _
      have n8 : ns.length ≤ 32 := hV.2.1.2.2.1
      unfold ja_X6_walkMembers_b7
      rw [jc_85_0, hC.2.2.2.1, if_neg (show ¬ (tx.length : Int) ≤ (cAt tx k : Int) by omega), c_at0 hC, bd_some, if_neg (show ¬ cw _ _ _ = 57 from cw_ne hC (w := 57) (by decide) h57), if_neg (show ¬ cw _ _ _ = 58 from cw_ne hC (w := 58) (by decide) h58), if_pos rfl, lt_eq, lt_eq, w_nat1 (by omega), w_n3 (by omega), wm_114 (by omega), show 7 + k + 1 = 8 + k by omega]
      show ja_X6_walkMembers_b7 (ja_X6_walkMembers_L7 m) 85 ((0 : Nat) : Int) ((8 + k : Nat) : Int) ((cAt tx k + 4 : Nat) : Int) S = _
      rw [wm_o hC (by omega) c5]
      rfl
    rw [e1]
    have hE := fMembers_ok c6
    obtain ⟨S1, i1, i2⟩ := c_memL hQ hu (j := 8 + k) (by omega) 20000 (cAt tx k + 5) m fl bl S hV (by rw [show 8 + k = 7 + k + 1 by omega]; exact oVm_up hO) c6 (by omega)
    rw [show 8 + k - 8 = k by omega]
    cases hs : fMem tx ns us (8 + k) 20000 (cAt tx k + 5) fl bl with
    | mk r l =>
      obtain ⟨l, b⟩ := l
      rw [hs] at i2
      cases r with
      | some y => exact ⟨S1, i1, i2, fun h => by cases h⟩
      | none =>
        obtain ⟨j1, j2, m', j3, j4⟩ := i2
        have hV1 : cVm S1 tx Q c ns us l b := j1
        obtain ⟨S', x1, x2, x3⟩ := ih (k + 1) m' d l b S1 (by omega) (by omega) hV1 (by rw [show 7 + (k + 1) = 8 + k by omega]; exact j2) j3 (by show (fMembers tx 20000 20000 (cAt tx k + 5)).2 ≤ tx.length; omega)
        rw [show 8 + (k + 1) = 8 + k + 1 by omega] at x2 x3
        refine ⟨S', mF_trans i1 x1, ?_, x3⟩
        rw [j4]
        rw [show 7 + (k + 1) = 8 + k by omega] at x2
        exact x2
/-- the class's look at the members -/
theorem c_memAll (hQ : Q = 13 ∨ Q = 49) (hu : uOk us) (hcl : ∀ k, k < ns.length - 8 → clsK tx (cAt tx k)) (hce : tx.length ≤ cAt tx (ns.length - 8)) (h8 : 8 ≤ ns.length) {S : nk_S} (hV : cVm S tx Q c ns us [] []) : ∃ S', mF Q S S' ∧ ja_X6_walkMembers 85 S = some (ccA (fMcs tx ns us 64 8 [] []).1, S') ∧ ((fMcs tx ns us 64 8 [] []).1 = none → cVm S' tx Q c ns us (fMcs tx ns us 64 8 [] []).2.1 (fMcs tx ns us 64 8 [] []).2.2 ∧ oVm tx ns us ns.length (fMcs tx ns us 64 8 [] []).2.1 (fMcs tx ns us 64 8 [] []).2.2) := by
  obtain ⟨m, hm⟩ := big_ge 40000 (by decide)
  have hT := hV.1.2.2.2.2.1
  have n8 : ns.length ≤ 32 := hV.2.1.2.2.1
  obtain ⟨S', x1, x2, x3⟩ := c_mcs hQ hu hcl hce h8 (ns.length - 8) 0 nk_big 64 [] [] S (by omega) (by omega) hV ⟨⟨by decide, fun f x h => by cases h⟩, ⟨by decide, fun f x h => (by cases h), fun a b x y _ h => by cases h⟩, fun x h => (by cases h), fun x h => (by cases h), fun x h => by cases h⟩ (by omega) (by show 0 ≤ tx.length; omega)
  exact ⟨S', x1, x2, x3⟩
end CWM
