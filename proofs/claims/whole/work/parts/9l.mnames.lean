/-! Names: the reference, whole; load of a text with a wrong name. -/
def rB0 (S : nk_S) (P b : Nat) (x : jB) : Prop := S.1 (P + 6) b = (x.ow : Int) ∧ S.1 (P + 7) b = bi x.me ∧ S.1 (P + 8) b = (x.ps.length : Int) ∧ (∀ (k : Nat) (t : Int), k < 12 → x.ps[k]? = some t → S.1 (P + 9) (b * 12 + k) = rvT t) ∧ S.1 (P + 10) b = rvT x.rs ∧ S.1 (P + 11) b = x.lc
/-- the reference's program -/
def rPg (S : nk_S) (P : Nat) (p : jP) : Prop := S.1 P 0 = ((p.1.length - 8 : Nat) : Int) ∧ (∀ j, j < p.1.length → S.1 (P + 1) j = p.2.1.getD j 0) ∧ S.1 P 1 = (p.2.2.1.length : Int) ∧ (∀ (f : Nat) (x : List Int × Nat × Int), p.2.2.1[f]? = some x → S.1 (P + 3) f = (x.2.1 : Int) ∧ S.1 (P + 4) f = rvT x.2.2) ∧ S.1 P 2 = (p.2.2.2.1.length : Int) ∧ S.1 P 6 = mnL p.1 p.2.2.2.1 0 ∧ (∀ (b : Nat) (x : jB), p.2.2.2.1[b]? = some x → rB0 S P b x) ∧ rEl S P p.2.2.2.2.2 ∧ rPl S P p.1.length p.2.1 p.2.2.1 p.2.2.2.1 ∧ rCd S P p.2.2.2.2.1.1 ∧ rSl S P p.2.2.2.2.1.2.1 ∧ (∀ i, 48 ≤ i → i < 54 → S.1 (P + 20) i = ((10 + (i - 48) : Nat) : Int)) ∧ rKl S P p.2.2.2.2.1.2.2.1 ∧ ∃ n, rTn S P n (fun y => th7 y ∨ ∃ x ∈ p.2.2.2.2.1.2.2.2, nbr x y)
def rNm (P : Nat) (S S' : nk_S) : Prop := S'.2 = S.2 ∧ (∀ a, a ≠ 121 → ¬ (218 ≤ a ∧ a ≤ 224) → ¬ (P ≤ a ∧ a < P + 46) → S'.1 a = S.1 a) ∧ ∀ i, i ≠ 12 → i ≠ 19 → S'.1 121 i = S.1 121 i
theorem m_rsv {S : nk_S} {P : Nat} {tx : List (List Int)} (hP : P = 122 ∨ P = 168) (hM : MW S tx) (h : (fProg tx 20000 20000 0).1 = true) : ∃ S', rNm P S S' ∧ MW S' tx ∧ (match rsv tx with
    | some y => m_rest P S = some (3, S') ∧ S'.1 121 12 = (y : Int)
    | none => m_rest P S = ja_X13_fault_L70 nk_big 121 P 0 S' ∧ rPg S' P (pgm tx)) := by
  obtain ⟨Sa, a1, a2, a3, a4, a5, a6, a7⟩ := m_names hP hM h
  have hu : uOk (fCls tx 20000 0 kC8 us8).2.2 := fCls_uOk 20000 0 kC8 us8 uOk_8 (by rw [kC8_len]; rfl) (by rw [kC8_len]; omega)
  have hD : nsD (fCls tx 20000 0 kC8 us8).2.1 := fCls_D 20000 0 kC8 us8 kC8_D
  have hend := fCls_end (tx := tx) 20000 0 kC8 us8 h (by rw [kC8_len]; rfl) (by rw [kC8_len]; omega)
  unfold rsv pgm m_rest
  obtain ⟨R1, hR1⟩ : ∃ R1, R1 = fCls tx 20000 0 kC8 us8 := ⟨_, rfl⟩
  rw [← hR1] at a1 a3 hu hD hend ⊢
  obtain ⟨r1, ns, us⟩ := R1
  have na : rNm P S Sa := ⟨a4, fun a x y z => a5 a x (by omega) (by omega) (by omega), fun i x _ => a6 i x⟩
  cases r1 with
  | some y =>
    obtain ⟨a1, a12⟩ := a1
    refine ⟨Sa, na, a2, ?_, a12⟩
    rw [a1, bd_some, if_pos rfl]
  | none =>
    dsimp only at a3 hu hD hend ⊢
    have a1 : ja_X13_classNames 121 P S = some (1, Sa) := a1
    obtain ⟨e1, e2, e3⟩ := hend rfl
    rw [kC8_len] at e2 e3
    have hcl : ∀ k, k < ns.length - 8 → clsK tx (cAt tx k) := fun k hk => e3 k (by omega) hk
    rw [a1, bd_some, if_neg (show ¬ (1 : Int) = 0 by decide)]
    have h8 : 8 ≤ ns.length := by omega
    have h32 := a3.2.1
    have hus : us.length = ns.length := a3.2.2.1
    obtain ⟨Sb, b1, b2, b3⟩ := m_memAll hP hu hcl a2 a3
    have hown := fMcs_ow (tx := tx) (ns := ns) (us := us) 64 8 [] [] (by omega) (fun x hx => by cases hx) (fun x hx => by cases hx)
    have hpos := fMcs_pos (tx := tx) (ns := ns) (us := us) hcl 64 8 [] [] (by omega) ⟨fun x hx => (by cases hx), fun a b x y _ hx => by cases hx⟩
    have hoV : (fMcs tx ns us 64 8 [] []).1 = none → oVm tx ns us ns.length (fMcs tx ns us 64 8 [] []).2.1 (fMcs tx ns us 64 8 [] []).2.2 := by
      have pure : ∀ (d j : Nat) (fl : List (List Int × Nat × Int)) (bl : List jB), 8 ≤ j → j ≤ ns.length → oVm tx ns us j fl bl → (fMcs tx ns us d j fl bl).1 = none → oVm tx ns us ns.length (fMcs tx ns us d j fl bl).2.1 (fMcs tx ns us d j fl bl).2.2 := by
        have pm : ∀ (j : Nat) (hj : j < ns.length) (d a : Nat) (fl : List (List Int × Nat × Int)) (bl : List jB), oVm tx ns us j fl bl → (fMembers tx 20000 d a).1 = true → (fMem tx ns us j d a fl bl).1 = none → oVm tx ns us j (fMem tx ns us j d a fl bl).2.1 (fMem tx ns us j d a fl bl).2.2 := by
          intro j hj d
          induction d with
          | zero => intro a fl bl _ h; cases h
          | succ d ih =>
            intro a fl bl hO h hn
            rw [fMembers] at h
            rw [fMem] at hn ⊢
            obtain ⟨o1, o2, o3, o4, o5⟩ := hO
            cases h58 : fW tx 58 a with
            | true => simp only [if_true]; exact ⟨o1, o2, o3, o4, o5⟩
            | false =>
              rw [h58] at h hn
              simp only [Bool.false_eq_true, if_false] at h hn ⊢
              obtain ⟨h1, h2, h3⟩ := sq_ok h
              rcases mem_kind h1 with ⟨g1, g2, g3, g4⟩ | ⟨g1, g2⟩
              · rw [if_pos g1] at hn ⊢
                cases hs : fStep tx ns us j a fl with
                | mk r l =>
                  rw [hs] at hn
                  cases r with
                  | some y => cases hn
                  | none =>
                    have hok := fStep_ok (tx := tx) (ns := ns) (us := us) (a := a) o1 (show j < us.length by omega) (by rw [hs])
                    rw [hs] at hok
                    obtain ⟨y1, y2, y3, y4, y5⟩ := hok
                    have y1' : l = fl ++ [(tx.getD (a + 1) [], j, tyC ns (tx.getD (a + 2) []))] := y1
                    refine ih _ l bl ⟨by rw [y1']; exact y5, o2, o3, o4, fun x hx => ?_⟩ h2 hn
                    rw [y1'] at hx
                    rcases List.mem_append.mp hx with e | e
                    · exact o5 x e
                    · have e2 : x = (tx.getD (a + 1) [], j, tyC ns (tx.getD (a + 2) [])) := by simpa using e
                      rw [e2]
                      exact Nat.le_refl j
              · have h49 : ¬ fW tx 49 a = true := by rw [g1.1]; decide
                rw [if_neg h49] at hn ⊢
                cases hs : bStep tx ns us j a bl with
                | mk r l =>
                  rw [hs] at hn
                  cases r with
                  | some y => cases hn
                  | none =>
                    have hok := bStep_ok (tx := tx) (ns := ns) (us := us) (a := a) (j := j) hu (by omega) o2 o3 o4 (show j < us.length by omega) g1 (by rw [hs])
                    rw [hs] at hok
                    obtain ⟨y1, y2, y3, y4, y5, y6⟩ := hok
                    have y1' : l = bl ++ [nB tx ns j a] := y1
                    exact ih _ fl l ⟨o1, by rw [y1']; exact y4, by rw [y1']; exact y5, by rw [y1']; exact y6, o5⟩ h2 hn
        intro d
        induction d with
        | zero =>
          intro j fl bl _ hj hO _
          exact ⟨hO.1, hO.2.1, hO.2.2.1, fun x hx => Nat.le_trans (hO.2.2.2.1 x hx) hj, fun x hx => Nat.le_trans (hO.2.2.2.2 x hx) hj⟩
        | succ d ih =>
          intro j fl bl h8j hj hO hn
          rw [fMcs] at hn ⊢
          by_cases q : ns.length ≤ j
          · rw [if_pos q]
            exact ⟨hO.1, hO.2.1, hO.2.2.1, fun x hx => Nat.le_trans (hO.2.2.2.1 x hx) hj, fun x hx => Nat.le_trans (hO.2.2.2.2 x hx) hj⟩
          · rw [if_neg q] at hn ⊢
            obtain ⟨c0, c1, c2, c3, c4, c5, c6⟩ := hcl (j - 8) (by omega)
            cases hs : fMem tx ns us j 20000 (cAt tx (j - 8) + 5) fl bl with
            | mk r l =>
              obtain ⟨l, k⟩ := l
              rw [hs] at hn
              cases r with
              | some y => cases hn
              | none =>
                have := pm j (by omega) 20000 (cAt tx (j - 8) + 5) fl bl hO c6 (by rw [hs])
                rw [hs] at this
                exact ih (j + 1) l k (by omega) (by omega) (oVm_up this) hn
      intro hn
      exact pure 64 8 [] [] (by omega) h8 ⟨⟨by decide, fun f x h => by cases h⟩, ⟨by decide, fun f x h => (by cases h), fun a b x y _ h => by cases h⟩, fun x h => (by cases h), fun x h => (by cases h), fun x h => by cases h⟩ hn
    obtain ⟨R2, hR2⟩ : ∃ R2, R2 = fMcs tx ns us 64 8 [] [] := ⟨_, rfl⟩
    rw [← hR2] at b2 b3 hown hpos hoV ⊢
    obtain ⟨r2, fl, bl⟩ := R2
    have nb : rNm P S Sb := ⟨b1.1.trans na.1, fun a x y z => by rw [b1.2.1 a x (by omega) (by omega) (by omega), na.2.1 a x y z], fun i x y => by rw [b1.2.2.1 i x, na.2.2 i x y]⟩
    cases r2 with
    | some y =>
      obtain ⟨b2, b12⟩ := b2
      refine ⟨Sb, nb, MW_F hP b1 a2, ?_, b12⟩
      rw [b2, bd_some, if_pos rfl]
    | none =>
      dsimp only at b3 hown hpos hoV ⊢
      have b2 : ja_X13_members 121 P Sa = some (1, Sb) := b2
      rw [b2, bd_some, if_neg (show ¬ (1 : Int) = 0 by decide)]
      have Vb := b3 rfl
      obtain ⟨od1, od2, od3, od4, od5⟩ := hoV rfl
      obtain ⟨pp, hpp⟩ := hpos rfl
      obtain ⟨Sc, c1, c2, c3⟩ := m_lnAll hP hu od1 od2 hpp (bOp2 od3) Vb
      obtain ⟨R3, hR3⟩ : ∃ R3, R3 = fLn tx ns us fl bl 64 0 ([], [], [], []) [] := ⟨_, rfl⟩
      have hozL : (fLn tx ns us fl bl 64 0 ([], [], [], []) []).1 = none → oJL (fLn tx ns us fl bl 64 0 ([], [], [], []) []).2.1 := by
        have pl : ∀ (d b : Nat) (z : jL) (el : List (Nat × Nat × Nat × Nat)), oJL z → (fLn tx ns us fl bl d b z el).1 = none → oJL (fLn tx ns us fl bl d b z el).2.1 := by
          intro d
          induction d with
          | zero => intro b z el hz _; exact hz
          | succ d ih =>
            intro b z el hz hn
            rw [fLn] at hn ⊢
            cases hx : bl[b]? with
            | none => exact hz
            | some x =>
              rw [hx] at hn
              dsimp only at hn ⊢
              cases hs : lnL tx ns us fl bl (lbs tx 20000 (x.op + 1) z.1.length).1 (lbs tx 20000 (x.op + 1) z.1.length).2 b x.lc z.1.length 20000 (x.op + 1) z with
              | mk r w =>
                rw [hs] at hn
                cases r with
                | some y => cases hn
                | none =>
                  have := lnL_o (tx := tx) (ns := ns) (us := us) (fl := fl) (bl := bl) (ls := (lbs tx 20000 (x.op + 1) z.1.length).1) (en := (lbs tx 20000 (x.op + 1) z.1.length).2) (b := b) (lc := x.lc) z.1.length 20000 (x.op + 1) z (by rw [hs]) hz
                  rw [hs] at this
                  exact ih (b + 1) w _ this hn
        exact pl 64 0 ([], [], [], []) [] ⟨by show 0 ≤ 1024; decide, by show 0 ≤ 48; decide, by show 0 ≤ 64; decide, by show 0 ≤ 0; decide⟩
      rw [← hR3] at c2 c3 hozL ⊢
      obtain ⟨r3, z, el⟩ := R3
      have nc : rNm P S Sc := ⟨c1.1.trans nb.1, fun a x y t => by rw [c1.2.1 a x (by omega) (by omega) (by omega) (by omega) (by omega), nb.2.1 a x y t], fun i x y => by rw [c1.2.2.1 i x y, nb.2.2 i x y]⟩
      cases r3 with
      | some y =>
        obtain ⟨c2, c12⟩ := c2
        refine ⟨Sc, nc, MW_c (c1.2.2.1 10 (by decide) (by decide)) (c1.2.1 216 (by omega) (by omega) (by omega) (by omega) (by omega) (by omega)) (c1.2.1 217 (by omega) (by omega) (by omega) (by omega) (by omega) (by omega)) (c1.2.1 215 (by omega) (by omega) (by omega) (by omega) (by omega) (by omega)) Vb.1, ?_, c12⟩
        rw [c2, bd_some, if_pos rfl]
      | none =>
        dsimp only at c3 hozL ⊢
        have c2 : ja_X13_lines 121 P Sb = some (1, Sc) := c2
        rw [c2, bd_some, if_neg (show ¬ (1 : Int) = 0 by decide)]
        obtain ⟨Vc, Zc, Ec⟩ := c3 rfl
        have oz := hozL rfl
        obtain ⟨Sd, d1, d2, d3⟩ := m_settled hP hu od1 od2 od3 hown.1 hD oz Vc Zc
        have nd : rNm P S Sd := ⟨d2.1.trans nc.1, fun a x y t => by rw [d2.2.1 a x (by omega) (by omega) (by omega) (by omega) (by omega) (by omega), nc.2.1 a x y t], fun i x y => by rw [d2.2.2.1 i x, nc.2.2 i x y]⟩
        have Vd := rVm_S hP d2 Vc
        by_cases q : 0 ≤ mnL ns bl 0
        · rw [if_pos q] at d1
          have d1 : ja_X13_settled 121 P Sc = some (1, Sd) := d1
          rw [if_pos q]
          refine ⟨Sd, nd, Vd.1, ?_, ?_⟩
          · rw [d1, bd_some, if_neg (show ¬ (1 : Int) = 0 by decide)]
          · obtain ⟨f1, f2, f3, f4, f5⟩ := d3 q
            have k := fun c x1 x2 x3 x4 x5 x6 x7 => d2.2.1 c x1 x2 x3 x4 x5 x6 x7
            refine ⟨Vd.2.1.1, Vd.2.1.2.2.2.1, Vd.2.2.1.1, fun f x hx => ⟨(Vd.2.2.1.2 f x hx).1, (Vd.2.2.1.2 f x hx).2.1⟩, Vd.2.2.2.1, f1, fun b x hx => ?_, fun b e he => ?_, f2, ?_, ⟨?_, fun i t ht => ?_⟩, f3, ?_, f5⟩
            · obtain ⟨x1, x2, x3, x4, x5, x6, -⟩ := Vd.2.2.2.2 b x hx
              exact ⟨x1, x2, x3, x4, x5, x6⟩
            · rw [k (P + 12) (by omega) (by omega) (by omega) (by omega) (by omega) (by omega) (by omega), k (P + 13) (by omega) (by omega) (by omega) (by omega) (by omega) (by omega) (by omega)]
              exact Ec b e he
            · have := Zc.1
              unfold rCd at this ⊢
              rw [d2.2.2.2 3 (by decide) (by decide), k (P + 15) (by omega) (by omega) (by omega) (by omega) (by omega) (by omega) (by omega), k (P + 16) (by omega) (by omega) (by omega) (by omega) (by omega) (by omega) (by omega), k (P + 17) (by omega) (by omega) (by omega) (by omega) (by omega) (by omega) (by omega), k (P + 18) (by omega) (by omega) (by omega) (by omega) (by omega) (by omega) (by omega), k 224 (by omega) (by omega) (by omega) (by omega) (by omega) (by omega) (by omega)]
              exact this
            · rw [d2.2.2.2 4 (by decide) (by decide)]; exact Zc.2.1.1
            · have hi := at_lt ht
              have h48 : z.2.1.length ≤ 48 := oz.2.1
              have hi' : i < z.2.1.length := hi
              rw [f4 i (by omega)]
              exact Zc.2.1.2 i t ht
            · have := Zc.2.2.1
              unfold rKl at this ⊢
              rw [d2.2.2.2 5 (by decide) (by decide), k (P + 21) (by omega) (by omega) (by omega) (by omega) (by omega) (by omega) (by omega), k (P + 22) (by omega) (by omega) (by omega) (by omega) (by omega) (by omega) (by omega), k (P + 23) (by omega) (by omega) (by omega) (by omega) (by omega) (by omega) (by omega), k (P + 24) (by omega) (by omega) (by omega) (by omega) (by omega) (by omega) (by omega), k (P + 25) (by omega) (by omega) (by omega) (by omega) (by omega) (by omega) (by omega)]
              exact this
        · rw [if_neg q] at d1
          obtain ⟨d1, d12⟩ := d1
          rw [if_neg q]
          refine ⟨Sd, nd, Vd.1, ?_, d12⟩
          rw [d1, bd_some, if_pos rfl]
