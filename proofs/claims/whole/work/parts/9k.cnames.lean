/-! Names: the class, whole. -/
def rsv (tx : List (List Int)) : Option Nat := match (fCls tx 20000 0 kC8 us8).1 with
  | some y => some y
  | none => match (fMcs tx (fCls tx 20000 0 kC8 us8).2.1 (fCls tx 20000 0 kC8 us8).2.2 64 8 [] []).1 with
    | some y => some y
    | none => match (fLn tx (fCls tx 20000 0 kC8 us8).2.1 (fCls tx 20000 0 kC8 us8).2.2 (fMcs tx (fCls tx 20000 0 kC8 us8).2.1 (fCls tx 20000 0 kC8 us8).2.2 64 8 [] []).2.1 (fMcs tx (fCls tx 20000 0 kC8 us8).2.1 (fCls tx 20000 0 kC8 us8).2.2 64 8 [] []).2.2 64 0 ([], [], [], []) []).1 with
      | some y => some y
      | none => if 0 ≤ mnL (fCls tx 20000 0 kC8 us8).2.1 (fMcs tx (fCls tx 20000 0 kC8 us8).2.1 (fCls tx 20000 0 kC8 us8).2.2 64 8 [] []).2.2 0 then none else some tx.length
/-- a program: names of classes, those above, fields, bodies, lines, ends -/
abbrev jP : Type := List (List Int) × List Int × List (List Int × Nat × Int) × List jB × jL × List (Nat × Nat × Nat × Nat)
def pgm (tx : List (List Int)) : jP := ((fCls tx 20000 0 kC8 us8).2.1, (fCls tx 20000 0 kC8 us8).2.2, (fMcs tx (fCls tx 20000 0 kC8 us8).2.1 (fCls tx 20000 0 kC8 us8).2.2 64 8 [] []).2.1, (fMcs tx (fCls tx 20000 0 kC8 us8).2.1 (fCls tx 20000 0 kC8 us8).2.2 64 8 [] []).2.2, (fLn tx (fCls tx 20000 0 kC8 us8).2.1 (fCls tx 20000 0 kC8 us8).2.2 (fMcs tx (fCls tx 20000 0 kC8 us8).2.1 (fCls tx 20000 0 kC8 us8).2.2 64 8 [] []).2.1 (fMcs tx (fCls tx 20000 0 kC8 us8).2.1 (fCls tx 20000 0 kC8 us8).2.2 64 8 [] []).2.2 64 0 ([], [], [], []) []).2)
def cB0 (S : nk_S) (Q b : Nat) (x : jB) : Prop := S.1 (Q + 10) b = (x.ow : Int) ∧ S.1 (Q + 12) b = bi x.me ∧ S.1 (Q + 13) b = (x.ps.length : Int) ∧ (∀ (k : Nat) (t : Int), k < 12 → x.ps[k]? = some t → S.1 (Q + 14) (b * 12 + k) = t) ∧ S.1 (Q + 15) b = x.rs ∧ S.1 (Q + 16) b = x.lc
/-- the class's program -/
def cPg (S : nk_S) (Q : Nat) (p : jP) : Prop := cU S Q p.2.1 ∧ S.1 (Q + 1) 4 = (p.2.2.1.length : Int) ∧ (∀ (f : Nat) (x : List Int × Nat × Int), p.2.2.1[f]? = some x → S.1 (Q + 6) f = (x.2.1 : Int) ∧ S.1 (Q + 7) f = x.2.2) ∧ S.1 (Q + 9) 0 = (p.2.2.2.1.length : Int) ∧ S.1 (Q + 9) 1 = mnL p.1 p.2.2.2.1 0 ∧ (∀ (b : Nat) (x : jB), p.2.2.2.1[b]? = some x → cB0 S Q b x) ∧ cEl S Q p.2.2.2.2.2 ∧ (∀ (c i : Nat) (x : jB), c < p.2.1.length → p.2.2.2.1[i]? = some x → S.1 (Q + 22) (c * 48 + i) = rnS p.2.1 p.2.2.2.1 c x) ∧ cJL S Q p.2.2.2.2.1 ∧ ∀ i, i < 32 → S.1 (Q + 4) i = 0
/-- what is always true of a program -/
def pOk (tx : List (List Int)) (p : jP) : Prop := uOk p.2.1 ∧ p.2.1.length = p.1.length ∧ 8 ≤ p.1.length ∧ p.1.length ≤ 32 ∧ nsD p.1 ∧ fOk p.2.1 p.2.2.1 ∧ bOk p.2.1 p.2.2.2.1 ∧ bTx tx p.1 p.2.2.2.1 ∧ (∀ x ∈ p.2.2.2.1, 8 ≤ x.ow) ∧ (∀ x ∈ p.2.2.1, 8 ≤ x.2.1) ∧ oJL p.2.2.2.2.1 ∧ p.2.2.2.2.2.length = p.2.2.2.1.length ∧ 0 ≤ mnL p.1 p.2.2.2.1 0
theorem fx60_2 : ∀ o, o < 8 → shp (fx.getD (60 + o) []) = 2 := by decide +kernel
theorem fx68_2 : shp (fx.getD 68 []) = 2 := by decide +kernel
/-- what the class's names may change -/
def cNm (Q : Nat) (S S' : nk_S) : Prop := (∀ b i, S'.2 b i = if b = 85 ∧ i = 1 then Q else S.2 b i) ∧ (∀ b, b ≠ 10 → b ≠ 11 → b ≠ 85 → b < Q ∨ Q + 36 ≤ b → S'.1 b = S.1 b) ∧ ∀ i, i ≠ 2 → i ≠ 3 → i ≠ 4 → S'.1 85 i = S.1 85 i
theorem cU_of {S : nk_S} {Q c : Nat} {ns : List (List Int)} {us : List Int} (h : cC S Q c ns us) : cU S Q us := ⟨by rw [h.2.2.2.1]; exact h.1, by rw [h.2.2.2.1]; exact h.2.2.2.2.1, h.2.2.2.2.2.1, by rw [h.2.2.2.1]; exact h.2.2.2.2.2.2.1⟩
theorem bOp2 {tx ns : List (List Int)} {bl : List jB} (h : bTx tx ns bl) : ∀ x ∈ bl, 2 ≤ x.op := by
  intro x hx
  have e := (h x hx).1
  have : x.op = (pT tx ns 20000 (x.tk + 3)).2 + 3 := by
    conv => lhs; rw [e]
    rfl
  omega
theorem c_rsv {S : nk_S} {Q c : Nat} {tx : List (List Int)} {ts : List (Nat × Nat)} {g : Nat → Int} (hQ : Q = 13 ∨ Q = 49) (hW : CW g S ts c) (hC : CF S tx c) (h : (fProg tx 20000 20000 0).1 = true) : ∃ S', ja_X6_resolveNames 85 Q S = some (ccA (rsv tx), S') ∧ cNm Q S S' ∧ (rsv tx = none → cPg S' Q (pgm tx) ∧ pOk tx (pgm tx)) := by
  have hT := hC.2.2.2.2.1
  obtain ⟨Sb, w1, w2, w3, w4, w5, S0, z1, z2, z3⟩ := c_resolve hQ hW hC h
  have hu : uOk (fCls tx 20000 0 kC8 us8).2.2 := fCls_uOk 20000 0 kC8 us8 uOk_8 (by rw [kC8_len]; rfl) (by rw [kC8_len]; omega)
  have hD : nsD (fCls tx 20000 0 kC8 us8).2.1 := fCls_D 20000 0 kC8 us8 kC8_D
  have hend := fCls_end (tx := tx) 20000 0 kC8 us8 h (by rw [kC8_len]; rfl) (by rw [kC8_len]; omega)
  have rsv_def : rsv tx = rsv tx := rfl
  unfold rsv at rsv_def ⊢
  unfold pgm
  obtain ⟨R1, hR1⟩ : ∃ R1, R1 = fCls tx 20000 0 kC8 us8 := ⟨_, rfl⟩
  rw [← hR1] at w2 w3 hu hD hend ⊢
  obtain ⟨r1, ns, us⟩ := R1
  have nmb : cNm Q S Sb := by
    refine ⟨w4, fun b x y z w => w5 b x y w, fun i _ _ _ => by rw [w5 85 (by decide) (by decide) (by omega)]⟩
  cases r1 with
  | some y =>
    refine ⟨Sb, ?_, nmb, fun h => by cases h⟩
    rw [w3, if_pos (show 0 ≤ ccA (some y) from by show (0 : Int) ≤ (y : Int); omega)]
    exact c_stop Sb y
  | none =>
    dsimp only at w2 w3 hu hD hend ⊢
    obtain ⟨e1, e2, e3⟩ := hend rfl
    rw [kC8_len] at e2 e3
    rw [if_neg (show ¬ 0 ≤ ccA none by decide)] at w3
    have hsb : ∀ b, b ≠ 10 → b ≠ 11 → b ≠ Q + 1 → b ≠ Q + 2 → b ≠ Q + 3 → Sb.1 b = S0.1 b := fun b x1 x2 x3 x4 x5 => z2.2.1 b x1 x2 x3 x4 x5
    have wdb : ∀ v, wd Sb v = wd S v := fun v => wd_congr (w5 3 (by decide) (by decide) (by omega)) (by rw [w5 5 (by decide) (by decide) (by omega)]) (by rw [w5 6 (by decide) (by decide) (by omega)])
    have wd0 : ∀ v, wd S0 v = wd S v := fun v => wd_congr (z3 3 (by omega)) (by rw [z3 5 (by omega)]) (by rw [z3 6 (by omega)])
    have h10 : ∀ v, shp (wd S v) ≠ 2 → Sb.1 10 v = S.1 10 v ∧ Sb.1 11 v = S.1 11 v := by
      intro v hs
      obtain ⟨k1, k2⟩ := z2.2.2.2 v
      rw [wd0] at k1 k2
      refine ⟨?_, ?_⟩
      · rcases k1 with k | k
        · exact absurd k hs
        · rw [k, z3 10 (by omega)]
      · rcases k2 with k | k
        · exact absurd k hs
        · rw [k, z3 11 (by omega)]
    have hMb : cM Sb c := cM_c (S := S) (fun v _ hs => h10 v (by omega)) wdb (fun v hv => (hW.2.2.2.2.2.2 v hv).2.1)
    obtain ⟨c1, c2, c3, c4, c5, c6, ⟨n0, c7, c8⟩, c9⟩ := z1
    have Vb : cVm Sb tx Q c ns us [] [] := by
      refine ⟨w1, w2, hMb, ⟨?_, fun f x hx => by cases hx⟩, ⟨?_, fun b x hx => by cases hx⟩, by rw [w4, if_pos ⟨rfl, rfl⟩]⟩
      · rw [z2.2.2.1 4 (by decide)]; exact c5
      · rw [hsb (Q + 9) (by omega) (by omega) (by omega) (by omega) (by omega)]; exact c4
    have Zb : cJL Sb Q ([], [], [], []) := by
      have k := hsb
      refine ⟨⟨by rw [k Q (by omega) (by omega) (by omega) (by omega) (by omega)]; exact c1, fun i x hx => by cases hx⟩, ⟨by rw [k Q (by omega) (by omega) (by omega) (by omega) (by omega)]; exact c2, fun i x hx => (by cases hx), fun i h1 h2 => by rw [k (Q + 31) (by omega) (by omega) (by omega) (by omega) (by omega)]; exact c9 i h1 h2⟩, ⟨by rw [k Q (by omega) (by omega) (by omega) (by omega) (by omega)]; exact c3, fun i x hx => by cases hx⟩, n0, by show n0 ≤ 7 + 3 * 0; omega, ?_⟩
      refine tC_iff (F := th7) ?_ (fun y => ⟨Or.inl, fun h => h.elim id (fun ⟨x, hx, _⟩ => by cases hx)⟩)
      unfold tC at c8 ⊢
      rw [k (Q + 23) (by omega) (by omega) (by omega) (by omega) (by omega), k (Q + 23 + 1) (by omega) (by omega) (by omega) (by omega) (by omega)]
      exact c8
    have hcl : ∀ k, k < ns.length - 8 → clsK tx (cAt tx k) := fun k hk => e3 k (by omega) hk
    obtain ⟨Sd, m1, m2, m3⟩ := c_memAll hQ hu hcl e1 (by omega) Vb
    have hown := fMcs_ow (tx := tx) (ns := ns) (us := us) 64 8 [] [] (by omega) (fun x hx => by cases hx) (fun x hx => by cases hx)
    have hpos := fMcs_pos (tx := tx) (ns := ns) (us := us) hcl 64 8 [] [] (by omega) ⟨fun x hx => (by cases hx), fun a b x y _ hx => by cases hx⟩
    rw [m2, bd_some] at w3
    obtain ⟨R2, hR2⟩ : ∃ R2, R2 = fMcs tx ns us 64 8 [] [] := ⟨_, rfl⟩
    rw [← hR2] at w3 m3 hown hpos ⊢
    obtain ⟨r2, fl, bl⟩ := R2
    have nmd : cNm Q S Sd := by
      refine ⟨fun b i => by rw [m1.1]; exact w4 b i, fun b x y z w => by rw [m1.2.1 b z (by omega) (by omega) (by omega), w5 b x y w], fun i x y z => by rw [m1.2.2.1 i x, w5 85 (by decide) (by decide) (by omega)]⟩
    cases r2 with
    | some y =>
      refine ⟨Sd, ?_, nmd, fun h => by cases h⟩
      rw [w3]
      exact c_stop Sd y
    | none =>
      dsimp only at w3 m3 hown hpos ⊢
      obtain ⟨Vd, od1, od2, od3, od4, od5⟩ := m3 rfl
      obtain ⟨pp, hpp⟩ := hpos rfl
      have Zd : cJL Sd Q ([], [], [], []) := by
        have kq : Sd.1 Q = Sb.1 Q := m1.2.1 Q (by omega) (by omega) (by omega) (by omega)
        exact cJL_c (fun d hd => by
          rcases hd with hd | hd
          · rw [hd]; exact kq
          · exact m1.2.1 d (by omega) (by omega) (by omega) (by omega)) Zb
      have wdd : ∀ v, wd Sd v = wd S v := fun v => by rw [wd_mF hQ m1, wdb]
      have hlo : ∀ b' x, 0 ≤ b' → bl[b']? = some x → ∀ v, v < c → shp (wd Sd v) = 1 → Sd.1 10 v ≤ (x.op : Int) := by
        intro b' x _ _ v hv hs
        rw [wdd] at hs
        rw [m1.2.1 10 (by omega) (by omega) (by omega) (by omega), (h10 v (by omega)).1]
        have hv10 := ((hW.2.2.2.2.2.2 v hv).2.2 (by omega)).1
        rw [hv10]
        by_cases q : 60 ≤ v ∧ v < 68
        · exfalso
          have e5 := fx60_2 (v - 60) (by omega)
          rw [show 60 + (v - 60) = v by omega, ← hW.2.2.2.2.2.1 v (by omega)] at e5
          omega
        · rw [if_neg q]; omega
      obtain ⟨bm, hbm⟩ := big_ge 100 (by decide)
      have hb48 := od2.1
      obtain ⟨Se, l1, l2⟩ := c_lnsL hQ hu od1 od2 hpp bl.length 0 nk_big 64 ([], [], [], []) [] Sd (by omega) (by omega) (by omega) Vd Zd ⟨by show 0 ≤ 1024; decide, by show 0 ≤ 48; decide, by show 0 ≤ 64; decide, by show 0 ≤ 0; decide⟩ rfl (fun b e h => by cases h) hlo
      have w3' : ja_X6_resolveNames 85 Q S = ja_X6_resolveNames_L28 nk_big 85 (-1) ((0 : Nat) : Int) Sd := w3
      obtain ⟨R3, hR3⟩ : ∃ R3, R3 = fLn tx ns us fl bl 64 0 ([], [], [], []) [] := ⟨_, rfl⟩
      rw [← hR3] at l2 ⊢
      obtain ⟨r3, z, el⟩ := R3
      have nme : cNm Q S Se := by
        refine ⟨fun b i => by rw [l1.1]; exact nmd.1 b i, fun b x y t w => by rw [l1.2.1 b t x y (by omega) (by omega) (by omega) (by omega)]; exact nmd.2.1 b x y t w, fun i x y t => by rw [l1.2.2.1 i x y t]; exact nmd.2.2 i x y t⟩
      cases r3 with
      | some y => exact ⟨Se, by rw [w3']; exact l2, nme, fun h => by cases h⟩
      | none =>
        dsimp only at l2 ⊢
        obtain ⟨f1, Ve, Ze, oz, Ee, lel⟩ := l2
        have hCe := Ve.1
        have hKe := Ve.2.1
        have hBe := Ve.2.2.2.2.1
        have h2e := Ve.2.2.2.2.2
        have Re : cRu Se Q c ns us bl := ⟨hKe, hBe.1, fun b x hx => ⟨(hBe.2 b x hx).1, (hBe.2 b x hx).2.1⟩⟩
        obtain ⟨Sf, g1, g2, g3, g4⟩ := c_fill hQ hu od2 hown.1 hCe Re
        have CFf : CF Sf tx c := CF_c (g3 2 (by omega)) (g3 3 (by omega)) (g3 4 (by omega)) (g3 5 (by omega)) (g3 6 (by omega)) (g3 9 (by omega)) hCe
        have h70 := CFf.2.1
        have wdf : ∀ v, wd Sf v = wd Se v := fun v => wd_congr (g3 3 (by omega)) (by rw [g3 5 (by omega)]) (by rw [g3 6 (by omega)])
        have e68 : wd Sf 68 = fx.getD 68 [] := CFf.2.2.2.2.2.2.2.1 68 (by decide)
        have Bf : cBl Sf Q c bl := by
          refine ⟨by rw [g3 (Q + 9) (by omega)]; exact hBe.1, fun b x hx => ?_⟩
          have := hBe.2 b x hx
          unfold cB1 at this ⊢
          rw [g3 (Q + 10) (by omega), g3 (Q + 11) (by omega), g3 (Q + 12) (by omega), g3 (Q + 13) (by omega), g3 (Q + 14) (by omega), g3 (Q + 15) (by omega), g3 (Q + 16) (by omega), g3 (Q + 17) (by omega)]
          simpa only [wdf] using this
        have m68 : Sf.1 10 68 = amx (fx.getD 68 []) ns 0 := by
          rw [g3 10 (by omega), hKe.2.2.2.2.2.2.2 68 (by omega) (by rw [← wdf, e68]; exact fx68_2), ← wdf, e68]
        have hus : us.length = ns.length := hKe.2.2.2.1
        have hmain : ja_X0_mainOf (Q + 9) (amx (fx.getD 68 []) ns 0) Sf = some (mnL ns bl 0, Sf) := by
          have := c_mainL (ns := ns) hQ CFf Bf hD hb48 (fun b x hx => by have := od2.2.1 b x hx; omega) bl.length 0 nk_big (by omega) (by omega)
          exact this
        obtain ⟨Sg, hSg⟩ : ∃ Sg, Sg = nk_wi Sf (Q + 9) 1 (mnL ns bl 0) := ⟨_, rfl⟩
        have h2f : Sf.2 85 1 = Q := by rw [g2]; exact h2e
        have h2g : Sg.2 85 1 = Q := by rw [hSg]; exact h2f
        have gn : ∀ d, d ≠ Q + 9 → Sg.1 d = Sf.1 d := fun d hd => by rw [hSg]; exact wi_n hd
        have gg : ∀ d, d ≠ Q + 9 → d ≠ Q + 22 → Sg.1 d = Se.1 d := fun d x y => by rw [gn d x, g3 d y]
        have e91 : Sg.1 (Q + 9) 1 = mnL ns bl 0 := by rw [hSg, wi_at, if_pos rfl]
        have efin : ja_X6_resolveNames 85 Q S = if 0 ≤ mnL ns bl 0 then some (-1, Sg) else some ((tx.length : Int), Sg) := by
          rw [w3', f1]
          unfold ja_X6_resolveNames_b58
          have c68 : ja_X10_firstOf 2 68 Sf = some (amx (fx.getD 68 []) ns 0, Sf) := by
            have := c_first CFf (w := 68) (by omega)
            rw [m68] at this
            exact this
          rw [if_pos (by decide), h2e, (jc_Qf hQ).2.2.2.2, (jc_Q hQ).1, g1, bd_some, jc_85_0, c68, bd_some, h2f, (jc_Qf hQ).2.2.2.2, hmain, bd_some, lt_eq, ← hSg, h2g, (jc_Qf hQ).2.2.2.2, e91, gn 2 (by omega), CFf.2.2.2.1]
        have nmg : cNm Q S Sg := by
          refine ⟨fun b i => ?_, fun b x y t w => by rw [gg b (by omega) (by omega)]; exact nme.2.1 b x y t w, fun i x y t => by rw [gg 85 (by omega) (by omega)]; exact nme.2.2 i x y t⟩
          have : Sg.2 = Se.2 := by rw [hSg]; exact g2
          rw [this]
          exact nme.1 b i
        by_cases q : 0 ≤ mnL ns bl 0
        · rw [if_pos q] at efin ⊢
          refine ⟨Sg, efin, nmg, fun _ => ⟨⟨?_, ?_, fun f x hx => ?_, ?_, e91, fun b x hx => ?_, fun b e he => ?_, fun c' i x hc hx => ?_, ?_, fun i hi => ?_⟩, ?_⟩⟩
          · exact cU_c (by rw [gg (Q + 1) (by omega) (by omega)]) (gg (Q + 2) (by omega) (by omega)) (gg (Q + 3) (by omega) (by omega)) (cU_of hKe)
          · rw [gg (Q + 1) (by omega) (by omega)]; exact Ve.2.2.2.1.1
          · rw [gg (Q + 6) (by omega) (by omega), gg (Q + 7) (by omega) (by omega)]
            exact (Ve.2.2.2.1.2 f x hx).2
          · rw [hSg, wi_at, if_neg (by decide), g3 (Q + 9) (by omega)]; exact hBe.1
          · obtain ⟨y1, -, y3, y4, y5, y6, y7, -⟩ := hBe.2 b x hx
            refine ⟨by rw [gg _ (by omega) (by omega)]; exact y1, by rw [gg _ (by omega) (by omega)]; exact y3, by rw [gg _ (by omega) (by omega)]; exact y4, fun k t hk ht => by rw [gg _ (by omega) (by omega)]; exact y5 k t hk ht, by rw [gg _ (by omega) (by omega)]; exact y6, by rw [gg _ (by omega) (by omega)]; exact y7⟩
          · rw [gg (Q + 18) (by omega) (by omega), gg (Q + 19) (by omega) (by omega), gg (Q + 20) (by omega) (by omega), gg (Q + 21) (by omega) (by omega)]
            exact Ee b e he
          · rw [gn _ (by omega)]
            have hc' : c' < us.length := hc
            exact g4 c' i x (by omega) hx
          · exact cJL_c (fun d hd => gg d (by omega) (by omega)) Ze
          · rw [gg _ (by omega) (by omega), l1.2.1 _ (by omega) (by omega) (by omega) (by omega) (by omega) (by omega) (by omega), m1.2.1 _ (by omega) (by omega) (by omega) (by omega), hsb _ (by omega) (by omega) (by omega) (by omega) (by omega)]
            exact c6 i hi
          · exact ⟨hu, hus, by show 8 ≤ ns.length; omega, hKe.2.2.1, hD, od1, od2, od3, hown.1, hown.2, oz, lel, q⟩
        · rw [if_neg q] at efin ⊢
          exact ⟨Sg, efin, nmg, fun h => by cases h⟩
