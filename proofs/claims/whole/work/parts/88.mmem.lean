/-! Members: the reference's walk over all. -/
section MMM
variable {tx : List (List Int)} {P : Nat} {ns : List (List Int)} {us : List Int}
def rVm (S : nk_S) (tx : List (List Int)) (P : Nat) (ns : List (List Int)) (us : List Int) (fl : List (List Int × Nat × Int)) (bl : List jB) : Prop := MW S tx ∧ rC S tx P ns us ∧ rFl S tx P fl ∧ rBl S tx P bl
theorem m_memL (hP : P = 122 ∨ P = 168) (hu : uOk us) {j : Nat} (hj : j < ns.length) {rec15 : Nat → Nat → Int → nk_S → Option (Int × nk_S)} : ∀ (d a m : Nat) (fl : List (List Int × Nat × Int)) (bl : List jB) (S : nk_S), rVm S tx P ns us fl bl → oVm tx ns us j fl bl → (fMembers tx 20000 d a).1 = true → d ≤ m → ∃ S', rF P S S' ∧ (match (fMem tx ns us j d a fl bl).1 with
    | some y => ja_X13_members_L33 rec15 m 121 P (a : Int) (j : Int) S = some (0, S') ∧ S'.1 121 12 = (y : Int)
    | none => rVm S' tx P ns us (fMem tx ns us j d a fl bl).2.1 (fMem tx ns us j d a fl bl).2.2 ∧ oVm tx ns us j (fMem tx ns us j d a fl bl).2.1 (fMem tx ns us j d a fl bl).2.2 ∧ ja_X13_members_L33 rec15 m 121 P (a : Int) (j : Int) S = rec15 121 P ((j + 1 : Nat) : Int) S') := by
  intro d
  induction d with
  | zero => intro a m fl bl S _ _ h; cases h
  | succ d ih =>
    intro a m fl bl S hV hO h hm
    have hV0 := hV
    obtain ⟨v1, v2, v3, v4⟩ := hV
    obtain ⟨o1, o2, o3, o4, o5⟩ := hO
    have hT := v1.2.1
    have hus : us.length = ns.length := v2.2.2.1
    have h32 := v2.2.1
    have hend := fMembers_ok h
    rw [fMembers] at h hend
    rw [fMem]
    obtain ⟨m, rfl⟩ : ∃ q, m = q + 1 := ⟨m - 1, by omega⟩
    have hstep : ja_X13_members_L33 rec15 (m + 1) 121 P (a : Int) (j : Int) S = ja_X13_members_b33 rec15 (ja_X13_members_L33 rec15 m) 121 P (a : Int) (j : Int) S := rfl
    unfold ja_X13_members_b33 at hstep
    have ha2 : a < 2000000 := by
      cases h58 : fW tx 58 a with
      | true => have := fW_T h58; omega
      | false =>
        rw [h58] at h
        simp only [Bool.false_eq_true, if_false] at h
        obtain ⟨h1, h2, h3⟩ := sq_ok h
        rcases mem_kind h1 with ⟨g1, -⟩ | ⟨g1, -⟩
        · have := fW_T g1; omega
        · rcases g1.2.1 with g | g
          · have := fW_T g; omega
          · have := fW_T g; omega
    rw [m_rb v1 a ha2, bd_some] at hstep
    cases h58 : fW tx 58 a with
    | true =>
      simp only [if_true]
      rw [h58, if_neg (show ¬ bi true = 0 by decide), lt_eq, w_nat1 (by omega)] at hstep
      exact ⟨S, rF_rfl, hV0, ⟨o1, o2, o3, o4, o5⟩, hstep⟩
    | false =>
      rw [h58] at h hend hstep
      simp only [Bool.false_eq_true, if_false] at h hend ⊢
      obtain ⟨h1, h2, h3⟩ := sq_ok h
      rw [if_pos (show bi false = 0 from rfl), m_fd v1 a ha2, bd_some] at hstep
      rcases mem_kind h1 with ⟨g1, g2, g3, g4⟩ | ⟨g1, g2⟩
      · rw [if_pos g1]
        rw [g1, if_neg (show ¬ bi true = 0 by decide)] at hstep
        obtain ⟨S1, f1, f2, f3, f4⟩ := m_field hP v1 v2 hu v3 v4 o1 hj g2 g3
        cases hs : fStep tx ns us j a fl with
        | mk r l =>
          rw [hs] at f1 f4
          cases r with
          | some y =>
            obtain ⟨f1, f12⟩ := f1
            refine ⟨S1, f2, ?_, f12⟩
            rw [hstep, f1, bd_some, if_pos rfl]
          | none =>
            have f1 : ja_X13_field 121 P (j : Int) (a : Int) S = some (1, S1) := f1
            have k4 := f4 rfl
            have hok := fStep_ok (tx := tx) (ns := ns) (us := us) (a := a) o1 (show j < us.length by omega) (by rw [hs])
            rw [hs] at hok
            obtain ⟨y1, y2, y3, y4, y5⟩ := hok
            have y1' : l = fl ++ [(tx.getD (a + 1) [], j, tyC ns (tx.getD (a + 2) []))] := y1
            have M1 := MW_F hP f2 v1
            rw [f1, bd_some, if_neg (by decide)] at hstep
            unfold ja_X13_members_b78 at hstep
            rw [m_behM M1 hT h1, bd_some] at hstep
            obtain ⟨S', i1, i2⟩ := ih (fMember tx 20000 a).2 m l bl S1 ⟨M1, rC_F hP f2 v2, k4, f3⟩ ⟨by rw [y1']; exact y5, o2, o3, o4, fun x hx => by
              rw [y1'] at hx
              rcases List.mem_append.mp hx with e | e
              · exact o5 x e
              · have e2 : x = (tx.getD (a + 1) [], j, tyC ns (tx.getD (a + 2) [])) := by simpa using e
                rw [e2]
                exact Nat.le_refl j⟩ h2 (by omega)
            refine ⟨S', rF_trans f2 i1, ?_⟩
            rw [hstep]
            exact i2
      · have h49 : fW tx 49 a = false := g1.1
        rw [if_neg (show ¬ fW tx 49 a = true by rw [h49]; decide)]
        rw [h49, if_pos (show bi false = 0 from rfl)] at hstep
        obtain ⟨S1, f1, f2, f3, f4⟩ := m_body hP v1 v2 hu v3 v4 o2 o3 hj g1
        cases hs : bStep tx ns us j a bl with
        | mk r l =>
          rw [hs] at f1 f4
          cases r with
          | some y =>
            obtain ⟨f1, f12⟩ := f1
            refine ⟨S1, f2, ?_, f12⟩
            rw [hstep, f1, bd_some, if_pos rfl]
          | none =>
            have f1 : ja_X13_body 121 P (j : Int) (a : Int) S = some (1, S1) := f1
            have k4 := f4 rfl
            have hok := bStep_ok (tx := tx) (ns := ns) (us := us) (a := a) (j := j) hu (by omega) o2 o3 o4 (show j < us.length by omega) g1 (by rw [hs])
            rw [hs] at hok
            obtain ⟨y1, y2, y3, y4, y5, y6⟩ := hok
            have y1' : l = bl ++ [nB tx ns j a] := y1
            have M1 := MW_F hP f2 v1
            rw [f1, bd_some, if_neg (by decide)] at hstep
            unfold ja_X13_members_b78 at hstep
            rw [m_behM M1 hT h1, bd_some] at hstep
            obtain ⟨S', i1, i2⟩ := ih (fMember tx 20000 a).2 m fl l S1 ⟨M1, rC_F hP f2 v2, f3, k4⟩ ⟨o1, by rw [y1']; exact y4, by rw [y1']; exact y5, by rw [y1']; exact y6, o5⟩ h2 (by omega)
            refine ⟨S', rF_trans f2 i1, ?_⟩
            rw [hstep]
            exact i2
theorem m_mcs (hP : P = 122 ∨ P = 168) (hu : uOk us) (hcl : ∀ k, k < ns.length - 8 → clsK tx (cAt tx k)) : ∀ (e j m d : Nat) (fl : List (List Int × Nat × Int)) (bl : List jB) (S : nk_S), j + e = ns.length → 8 ≤ j → e < d → e < m → rVm S tx P ns us fl bl → oVm tx ns us j fl bl → ∃ S', rF P S S' ∧ mcA (fMcs tx ns us d j fl bl).1 (ja_X13_members_L15 m 121 P (j : Int) S) S' ∧ ((fMcs tx ns us d j fl bl).1 = none → rVm S' tx P ns us (fMcs tx ns us d j fl bl).2.1 (fMcs tx ns us d j fl bl).2.2) := by
  intro e
  induction e with
  | zero =>
    intro j m d fl bl S h1 h8 h2 h3 hV hO
    obtain ⟨d, rfl⟩ : ∃ q, d = q + 1 := ⟨d - 1, by omega⟩
    obtain ⟨m, rfl⟩ : ∃ q, m = q + 1 := ⟨m - 1, by omega⟩
    rw [fMcs, if_pos (by omega)]
    refine ⟨S, rF_rfl, ?_, fun _ => hV⟩
    show ja_X13_members_b15 (ja_X13_members_L15 m) 121 P (j : Int) S = some (1, S)
    have hcnt : ja_X13_classCount 121 P S = some ((ns.length : Int), S) := by
      unfold ja_X13_classCount
      rw [hV.2.1.1, show (8 : Int) + ((ns.length - 8 : Nat) : Int) = (ns.length : Int) by omega, w_n0 (by have := hV.2.1.2.1; omega)]
    unfold ja_X13_members_b15
    rw [hcnt, bd_some, if_pos (by omega)]
  | succ e ih =>
    intro j m d fl bl S h1 h8 h2 h3 hV hO
    obtain ⟨d, rfl⟩ : ∃ q, d = q + 1 := ⟨d - 1, by omega⟩
    obtain ⟨m, rfl⟩ : ∃ q, m = q + 1 := ⟨m - 1, by omega⟩
    have h32 := hV.2.1.2.1
    have hT := hV.1.2.1
    have hcnt : ja_X13_classCount 121 P S = some ((ns.length : Int), S) := by
      unfold ja_X13_classCount
      rw [hV.2.1.1, show (8 : Int) + ((ns.length - 8 : Nat) : Int) = (ns.length : Int) by omega, w_n0 (by omega)]
    obtain ⟨q, q1, q2, q3⟩ := hV.2.1.2.2.2.2.2 j h8 (by omega)
    obtain ⟨c0, c1, c2, c3, c4, c5, c6⟩ := hcl (j - 8) (by omega)
    rw [fMcs, if_neg (by omega)]
    obtain ⟨bm, hbm⟩ := big_ge 40000 (by decide)
    have hstep : ja_X13_members_L15 (m + 1) 121 P (j : Int) S = ja_X13_members_L33 (ja_X13_members_L15 m) nk_big 121 P ((cAt tx (j - 8) + 5 : Nat) : Int) (j : Int) S := by
      show ja_X13_members_b15 (ja_X13_members_L15 m) 121 P (j : Int) S = _
      unfold ja_X13_members_b15
      have w4 : nk_w ((q : Int) + 4) = ((cAt tx (j - 8) + 5 : Nat) : Int) := by
        rw [q3, show ((cAt tx (j - 8) + 1 : Nat) : Int) + 4 = ((cAt tx (j - 8) + 5 : Nat) : Int) by omega]
        exact w_n0 (by omega)
      rw [hcnt, bd_some, if_neg (by omega), if_pos (in_i (N := 32) (by omega)), lt_eq, jc_121_13, Int.toNat_natCast, q1, w4]
    obtain ⟨S1, i1, i2⟩ := m_memL hP hu (j := j) (by omega) (rec15 := ja_X13_members_L15 m) 20000 (cAt tx (j - 8) + 5) nk_big fl bl S hV hO c6 (by omega)
    cases hs : fMem tx ns us j 20000 (cAt tx (j - 8) + 5) fl bl with
    | mk r l =>
      obtain ⟨l, b⟩ := l
      rw [hs] at i2
      cases r with
      | some y =>
        obtain ⟨i2, i3⟩ := i2
        refine ⟨S1, i1, ⟨?_, i3⟩, fun h => by cases h⟩
        rw [hstep]
        exact i2
      | none =>
        obtain ⟨j1, j2, j3⟩ := i2
        obtain ⟨S', x1, x2, x3⟩ := ih (j + 1) m d l b S1 (by omega) (by omega) (by omega) (by omega) j1 (oVm_up j2)
        refine ⟨S', rF_trans i1 x1, ?_, x3⟩
        rw [hstep, j3]
        exact x2
/-- the reference's look at the members -/
theorem m_memAll (hP : P = 122 ∨ P = 168) (hu : uOk us) (hcl : ∀ k, k < ns.length - 8 → clsK tx (cAt tx k)) {S : nk_S} (hM : MW S tx) (hC : rC S tx P ns us) : ∃ S', rF P S S' ∧ mcA (fMcs tx ns us 64 8 [] []).1 (ja_X13_members 121 P S) S' ∧ ((fMcs tx ns us 64 8 [] []).1 = none → rVm S' tx P ns us (fMcs tx ns us 64 8 [] []).2.1 (fMcs tx ns us 64 8 [] []).2.2) := by
  obtain ⟨m, hm⟩ := big_ge 100 (by decide)
  have h8 := rC_len hC
  have h32 := hC.2.1
  obtain ⟨T, hT⟩ : ∃ T, T = nk_wi (nk_wi S P 1 0) P 2 0 := ⟨_, rfl⟩
  have tn : ∀ b, b ≠ P → T.1 b = S.1 b := fun b hb => by rw [hT, wi_n hb, wi_n hb]
  have FT : rF P S T := ⟨by rw [hT]; rfl, fun b _ _ x _ => tn b x, fun i _ => by rw [tn 121 (by omega)], fun i x y => by rw [hT]; simp only [wi_v, x, y, and_false, if_false]⟩
  have t1 : T.1 P 1 = 0 := by
    rw [hT]
    simp only [wi_v, true_and]
    rw [if_neg (by decide), if_pos trivial]
  have t2 : T.1 P 2 = 0 := by rw [hT]; simp only [wi_v, and_self, if_true]
  obtain ⟨S', x1, x2, x3⟩ := m_mcs hP hu hcl (ns.length - 8) 8 nk_big 64 [] [] T (by omega) (by omega) (by omega) (by omega) ⟨MW_F hP FT hM, rC_F hP FT hC, ⟨t1, fun f x h => by cases h⟩, ⟨t2, fun f x h => by cases h⟩⟩ ⟨⟨by decide, fun f x h => by cases h⟩, ⟨by decide, fun f x h => (by cases h), fun a b x y _ h => by cases h⟩, fun x h => (by cases h), fun x h => (by cases h), fun x h => by cases h⟩
  refine ⟨S', rF_trans FT x1, ?_, x3⟩
  have e : ja_X13_members 121 P S = ja_X13_members_L15 nk_big 121 P ((8 : Nat) : Int) T := by
    unfold ja_X13_members
    rw [lt_eq, lt_eq, ← hT]
    rfl
  rw [e]
  exact x2
end MMM
