/-! Lines: the reference's bodies, one and all. -/
section MLO
variable {tx : List (List Int)} {P : Nat} {ns : List (List Int)} {us : List Int} {fl : List (List Int × Nat × Int)} {bl : List jB} {z : jL}
theorem lnS_o {ls : List (List Int × Nat × Nat)} {en b : Nat} {lc : Int} (a : Nat) (z : jL) (h : (lnS tx ns us fl bl ls en b lc a z).1 = none) (hz : oJL z) : oJL (lnS tx ns us fl bl ls en b lc a z).2 := by
  obtain ⟨y1, y2, y3, y4⟩ := hz
  unfold lnS at h ⊢
  by_cases c59 : fW tx 59 (a + 1) = true
  · rw [if_pos c59] at h ⊢
    cases hl : lfd (tx.getD a []) ls with
    | none => rw [hl] at h; cases h
    | some q =>
      rw [hl] at h
      dsimp only at h ⊢
      by_cases c : q.1 = a
      · rw [if_pos c]; exact ⟨y1, y2, y3, y4⟩
      · rw [if_neg c] at h; cases h
  rw [if_neg c59] at h ⊢
  by_cases c46 : fW tx 46 a = true
  · rw [if_pos c46] at h ⊢
    split at h
    · cases h
    rename_i c1
    rw [if_neg c1]
    split at h
    · cases h
    rename_i c2
    rw [if_neg c2]
    split at h
    · cases h
    rename_i c3
    rw [if_neg c3]
    split at h
    · cases h
    rename_i c4
    rw [if_neg c4]
    split at h
    · cases h
    rename_i c5
    rw [if_neg c5]
    refine ⟨y1, y2, ?_, y4⟩
    show (z.2.2.1 ++ [_]).length ≤ 64
    rw [List.length_append, List.length_cons, List.length_nil]
    omega
  rw [if_neg c46] at h ⊢
  by_cases c1 : 1024 ≤ z.1.length ∨ ((fO tx a = 30 ∨ fO tx a = 31) ∧ 48 ≤ z.2.1.length)
  · rw [if_pos c1] at h; cases h
  rw [if_neg c1] at h ⊢
  cases hX : oX tx ns us fl bl ls en lc (fO tx a).toNat (a + 1) with
  | none => rw [hX] at h; cases h
  | some q =>
    have n1 : (nTh (fO tx a).toNat q.1 q.2).length ≤ 1 := by
      unfold nTh
      split
      · exact Nat.le_refl 1
      · split
        · exact Nat.le_refl 1
        · exact Nat.zero_le 1
    have s1 : (sTy (fO tx a).toNat q.1).length ≤ 1 ∧ ((sTy (fO tx a).toNat q.1).length = 1 → fO tx a = 30 ∨ fO tx a = 31) := by
      unfold sTy
      split
      · rename_i e; exact ⟨Nat.le_refl 1, fun _ => by omega⟩
      · split
        · rename_i e; exact ⟨Nat.le_refl 1, fun _ => by omega⟩
        · exact ⟨Nat.zero_le 1, fun h => by cases h⟩
    refine ⟨?_, ?_, y3, ?_⟩
    · show (z.1 ++ [_]).length ≤ 1024
      rw [List.length_append, List.length_cons, List.length_nil]; omega
    · show (z.2.1 ++ sTy (fO tx a).toNat q.1).length ≤ 48
      rw [List.length_append]
      by_cases e : (sTy (fO tx a).toNat q.1).length = 1
      · have := s1.2 e
        omega
      · omega
    · show (z.2.2.2 ++ nTh (fO tx a).toNat q.1 q.2).length ≤ (z.1 ++ [_]).length
      rw [List.length_append, List.length_append, List.length_cons, List.length_nil]; omega
def rKB (P b : Nat) (S S' : nk_S) : Prop := S'.2 = S.2 ∧ (∀ c, c ≠ 121 → ¬ (222 ≤ c ∧ c ≤ 224) → c ≠ P → ¬ (P + 12 ≤ c ∧ c ≤ P + 13) → ¬ (P + 15 ≤ c ∧ c ≤ P + 18) → ¬ (P + 20 ≤ c ∧ c ≤ P + 26) → S'.1 c = S.1 c) ∧ (∀ i, i ≠ 12 → i ≠ 19 → S'.1 121 i = S.1 121 i) ∧ (∀ i, i ≠ 3 → i ≠ 4 → i ≠ 5 → i ≠ 7 → S'.1 P i = S.1 P i) ∧ ∀ c i, P + 12 ≤ c → c ≤ P + 13 → i < b → S'.1 c i = S.1 c i
theorem rKB_trans {b b' : Nat} (hb : b ≤ b') {S1 S2 S3 : nk_S} (h : rKB P b S1 S2) (k : rKB P b' S2 S3) : rKB P b S1 S3 := ⟨k.1.trans h.1, fun c x1 x2 x3 x4 x5 x6 => (k.2.1 c x1 x2 x3 x4 x5 x6).trans (h.2.1 c x1 x2 x3 x4 x5 x6), fun i x y => (k.2.2.1 i x y).trans (h.2.2.1 i x y), fun i x y z w => (k.2.2.2.1 i x y z w).trans (h.2.2.2.1 i x y z w), fun c i x y z => (k.2.2.2.2 c i x y (by omega)).trans (h.2.2.2.2 c i x y z)⟩
theorem rKB_K {b : Nat} (hP : P = 122 ∨ P = 168) {S S' : nk_S} (h : rK P S S') : rKB P b S S' := ⟨h.1, fun c x1 x2 x3 _ x5 x6 => h.2.1 c x1 (by omega) x3 x5 x6, fun i x _ => h.2.2.1 i x, h.2.2.2, fun c i x y _ => by rw [h.2.1 c (by omega) (by omega) (by omega) (by omega) (by omega)]⟩
theorem rVm_KB {b : Nat} (hP : P = 122 ∨ P = 168) {S S' : nk_S} (h : rKB P b S S') (hV : rVm S tx P ns us fl bl) : rVm S' tx P ns us fl bl := by
  obtain ⟨v1, v2, v3, v4⟩ := hV
  have k := fun c x1 x2 x3 x4 x5 x6 => h.2.1 c x1 x2 x3 x4 x5 x6
  refine ⟨MW_c (h.2.2.1 10 (by decide) (by decide)) (k 216 (by omega) (by omega) (by omega) (by omega) (by omega) (by omega)) (k 217 (by omega) (by omega) (by omega) (by omega) (by omega) (by omega)) (k 215 (by omega) (by omega) (by omega) (by omega) (by omega) (by omega)) v1, rC_c (h.2.2.2.1 0 (by decide) (by decide) (by decide) (by decide)) (k (P + 1) (by omega) (by omega) (by omega) (by omega) (by omega) (by omega)) (k 218 (by omega) (by omega) (by omega) (by omega) (by omega) (by omega)) v2, ⟨by rw [h.2.2.2.1 1 (by decide) (by decide) (by decide) (by decide)]; exact v3.1, fun f x hx => ?_⟩, ⟨by rw [h.2.2.2.1 2 (by decide) (by decide) (by decide) (by decide)]; exact v4.1, fun b x hx => ?_⟩⟩
  · rw [k (P + 3) (by omega) (by omega) (by omega) (by omega) (by omega) (by omega), k (P + 4) (by omega) (by omega) (by omega) (by omega) (by omega) (by omega), k 219 (by omega) (by omega) (by omega) (by omega) (by omega) (by omega)]
    exact v3.2 f x hx
  · have := v4.2 b x hx
    unfold rB1 at this ⊢
    rw [k (P + 6) (by omega) (by omega) (by omega) (by omega) (by omega) (by omega), k (P + 7) (by omega) (by omega) (by omega) (by omega) (by omega) (by omega), k (P + 8) (by omega) (by omega) (by omega) (by omega) (by omega) (by omega), k (P + 9) (by omega) (by omega) (by omega) (by omega) (by omega) (by omega), k (P + 10) (by omega) (by omega) (by omega) (by omega) (by omega) (by omega), k (P + 11) (by omega) (by omega) (by omega) (by omega) (by omega) (by omega), k 220 (by omega) (by omega) (by omega) (by omega) (by omega) (by omega), k 221 (by omega) (by omega) (by omega) (by omega) (by omega) (by omega)]
    exact this
theorem m_linesB (hP : P = 122 ∨ P = 168) {S : nk_S} (hV : rVm S tx P ns us fl bl) (hu : uOk us) (hO : fOk us fl) (hOb : bOk us bl) (hZ : rJL S P z) (hoz : oJL z) {b : Nat} {x : jB} (hx : bl[b]? = some x) (hxl : (fLines tx 20000 (x.op + 1)).1 = true) (h2 : 2 ≤ x.op) {R : Option Nat × jL} (hR : R = lnL tx ns us fl bl (lbs tx 20000 (x.op + 1) z.1.length).1 (lbs tx 20000 (x.op + 1) z.1.length).2 b x.lc z.1.length 20000 (x.op + 1) z) : ∃ S', mcA R.1 (ja_X13_linesOf 121 P (b : Int) S) S' ∧ rKB P b S S' ∧ (R.1 = none → rJL S' P R.2 ∧ S'.1 (P + 12) b = (z.1.length : Int) ∧ S'.1 (P + 13) b = ((lbs tx 20000 (x.op + 1) z.1.length).2 : Int)) := by
  have hM := hV.1
  have hT := hM.2.1
  have hbl := at_lt hx
  have hb48 : b < 48 := by have := hOb.1; omega
  have hend := fLines_ok hxl
  obtain ⟨l1, l2, l3, l4⟩ := lbs_ok 20000 (x.op + 1) z.1.length hxl
  have hB1 := hV.2.2.2.2 b x hx
  have h221 : S.1 221 b = ((x.op - 2 : Nat) : Int) := hB1.2.2.2.2.2.2.2.2
  have h11 : S.1 (P + 11) b = x.lc := hB1.2.2.2.2.2.1
  have h1024 := hoz.1
  have hz3 : S.1 P 3 = (z.1.length : Int) := hZ.1.1
  obtain ⟨A, hA⟩ : ∃ A, A = nk_wi (nk_wi S (P + 12) b (z.1.length : Int)) 121 19 0 := ⟨_, rfl⟩
  have an : ∀ c, c ≠ 121 → c ≠ P + 12 → A.1 c = S.1 c := fun c p q => by rw [hA, wi_n p, wi_n q]
  have a121 : ∀ i, i ≠ 19 → A.1 121 i = S.1 121 i := fun i hi => by rw [hA, wi_at, if_neg hi, wi_n (by omega)]
  have MA : MW A tx := MW_c (a121 10 (by decide)) (an 216 (by omega) (by omega)) (an 217 (by omega) (by omega)) (an 215 (by omega) (by omega)) hM
  have LA : rLs A tx [] := ⟨by rw [hA, wi_at, if_pos rfl]; rfl, by show 0 ≤ 16000; decide, fun k q h => by cases h⟩
  obtain ⟨m, hm⟩ := big_ge 40000 (by decide)
  obtain ⟨B, b1, b2, b3, b4, b5⟩ := m_mkL hP hb48 (bg := ((x.op + 1 : Nat) : Int)) 20000 (x.op + 1) nk_big z.1.length [] A MA LA hxl (by show 0 ≤ x.op + 1; omega) (by omega) (by omega)
  rw [List.nil_append] at b2
  obtain ⟨D, hD⟩ : ∃ D, D = nk_wi B (P + 13) b ((lbs tx 20000 (x.op + 1) z.1.length).2 : Int) := ⟨_, rfl⟩
  have e0 : ja_X13_linesOf 121 P (b : Int) S = ja_X13_linesOf_L131 nk_big 121 P (b : Int) ((x.op + 1 : Nat) : Int) ((lbs tx 20000 (x.op + 1) z.1.length).2 : Int) D := by
    have w3 : nk_w (((x.op - 2 : Nat) : Int) + 3) = ((x.op + 1 : Nat) : Int) := by
      rw [show ((x.op - 2 : Nat) : Int) + 3 = ((x.op + 1 : Nat) : Int) by omega]
      exact w_n0 (by omega)
    unfold ja_X13_linesOf
    rw [if_pos (in_i (N := 48) (by clear w3; omega)), lt_eq, lt_eq, lt_eq, lt_eq, jc_121_16, (jcP hP 19 (by decide) : ja_c P 19 = P + 12), Int.toNat_natCast, h221, w3, hz3]
    clear w3
    have hA' : nk_wi (nk_wi S (P + (19 - 7)) b (z.1.length : Int)) 121 19 0 = A := hA.symm
    rw [hA', an P (by omega) (by omega), hz3, b1, ← hD]
  have dn : ∀ c, c ≠ 121 → c ≠ 222 → c ≠ 223 → c ≠ P + 12 → c ≠ P + 13 → D.1 c = S.1 c := fun c x1 x2 x3 x4 x5 => by rw [hD, wi_n x5, b4 c x1 x2 x3, an c x1 x4]
  have d121 : ∀ i, i ≠ 19 → D.1 121 i = S.1 121 i := fun i hi => by rw [hD, wi_n (by omega), b5 i hi, a121 i hi]
  have FD : rKB P b S D := by
    refine ⟨by rw [hD]; show B.2 = S.2; rw [b3, hA]; rfl, fun c x1 x2 x3 x4 x5 x6 => dn c x1 (by omega) (by omega) (by omega) (by omega), fun i _ y => d121 i y, fun i _ _ _ _ => by rw [dn P (by omega) (by omega) (by omega) (by omega) (by omega)], fun c i p q r => ?_⟩
    by_cases e : c = P + 13
    · subst e
      rw [hD, wi_at, if_neg (by omega), b4 _ (by omega) (by omega) (by omega), an _ (by omega) (by omega)]
    · have e2 : c = P + 12 := by omega
      subst e2
      rw [hD, wi_n (by omega), b4 _ (by omega) (by omega) (by omega), hA, wi_n (by omega), wi_at, if_neg (by omega)]
  have VD := rVm_KB hP FD hV
  have ZD : rJL D P z := rJL_c (fun c hc => dn c (by omega) (by omega) (by omega) (by omega) (by omega)) hZ
  have LD : rLs D tx (lbs tx 20000 (x.op + 1) z.1.length).1 := by
    obtain ⟨q1, q2, q3⟩ := b2
    refine ⟨by rw [hD, wi_n (by omega)]; exact q1, q2, ?_⟩
    rw [hD, wi_n (show 222 ≠ P + 13 by omega), wi_n (show 223 ≠ P + 13 by omega)]
    exact q3
  have d12 : D.1 (P + 12) b = (z.1.length : Int) := by rw [hD, wi_n (by omega), b4 _ (by omega) (by omega) (by omega), hA, wi_n (by omega), wi_at, if_pos rfl]
  obtain ⟨S', s1, s2, s3⟩ := m_lnL (lc := x.lc) (en := (lbs tx 20000 (x.op + 1) z.1.length).2) hP hu hO hOb hb48 z.1.length 20000 (x.op + 1) nk_big z D VD ZD hoz (fun a z h hz => lnS_o a z h hz) LD (by rw [dn _ (by omega) (by omega) (by omega) (by omega) (by omega)]; exact h11) d12 hxl rfl (by omega)
  rw [← hR] at s1 s3
  refine ⟨S', by rw [e0]; exact s1, rKB_trans (Nat.le_refl b) FD (rKB_K hP s2), fun hn => ⟨s3 hn, ?_, ?_⟩⟩
  · rw [s2.2.1 _ (by omega) (by omega) (by omega) (by omega) (by omega)]; exact d12
  · rw [s2.2.1 _ (by omega) (by omega) (by omega) (by omega) (by omega), hD, wi_at, if_pos rfl]
def rEl (S : nk_S) (P : Nat) (el : List (Nat × Nat × Nat × Nat)) : Prop := ∀ (b : Nat) (e : Nat × Nat × Nat × Nat), el[b]? = some e → S.1 (P + 12) b = (e.1 : Int) ∧ S.1 (P + 13) b = (e.2.1 : Int)
theorem lnL_o {ls : List (List Int × Nat × Nat)} {en b : Nat} {lc : Int} (st : Nat) : ∀ (d a : Nat) (z : jL), (lnL tx ns us fl bl ls en b lc st d a z).1 = none → oJL z → oJL (lnL tx ns us fl bl ls en b lc st d a z).2 := by
  intro d
  induction d with
  | zero => intro a z _ h; exact h
  | succ d ih =>
    intro a z h hz
    rw [lnL] at h ⊢
    by_cases c : fW tx 58 a = true
    · rw [if_pos c] at h ⊢
      by_cases c2 : clz st z.1 = true
      · rw [if_pos c2]; exact hz
      · rw [if_neg c2] at h; cases h
    · rw [if_neg c] at h ⊢
      cases hs : lnS tx ns us fl bl ls en b lc a z with
      | mk r w =>
        rw [hs] at h
        cases r with
        | some y => cases h
        | none =>
          have := lnS_o (tx := tx) (ns := ns) (us := us) (fl := fl) (bl := bl) (ls := ls) (en := en) (b := b) (lc := lc) a z (by rw [hs]) hz
          rw [hs] at this
          exact ih _ w h this
theorem m_lnsL (hP : P = 122 ∨ P = 168) (hu : uOk us) (hO : fOk us fl) (hOb : bOk us bl) {p : Nat} (hPo : bP tx bl p) (h2 : ∀ x ∈ bl, 2 ≤ x.op) : ∀ (e b m d : Nat) (z : jL) (el : List (Nat × Nat × Nat × Nat)) (S : nk_S), b + e = bl.length → e < d → e < m → rVm S tx P ns us fl bl → rJL S P z → oJL z → el.length = b → rEl S P el → ∃ S', rKB P b S S' ∧ mcA (fLn tx ns us fl bl d b z el).1 (ja_X13_lines_L22 m 121 P (b : Int) S) S' ∧ ((fLn tx ns us fl bl d b z el).1 = none → rVm S' tx P ns us fl bl ∧ rJL S' P (fLn tx ns us fl bl d b z el).2.1 ∧ rEl S' P (fLn tx ns us fl bl d b z el).2.2) := by
  intro e
  induction e with
  | zero =>
    intro b m d z el S h1 hd h3 hV hZ hoz hel hE
    obtain ⟨d, rfl⟩ : ∃ q, d = q + 1 := ⟨d - 1, by omega⟩
    obtain ⟨m, rfl⟩ : ∃ q, m = q + 1 := ⟨m - 1, by omega⟩
    rw [fLn, List.getElem?_eq_none (show bl.length ≤ b by omega)]
    refine ⟨S, rKB_K hP rK_rfl, ?_, fun _ => ⟨hV, hZ, hE⟩⟩
    show ja_X13_lines_b22 (ja_X13_lines_L22 m) 121 P (b : Int) S = some (1, S)
    unfold ja_X13_lines_b22
    rw [hV.2.2.2.1, if_pos (by omega)]
  | succ e ih =>
    intro b m d z el S h1 hd h3 hV hZ hoz hel hE
    obtain ⟨d, rfl⟩ : ∃ q, d = q + 1 := ⟨d - 1, by omega⟩
    obtain ⟨m, rfl⟩ : ∃ q, m = q + 1 := ⟨m - 1, by omega⟩
    obtain ⟨x, hx⟩ : ∃ x, bl[b]? = some x := ⟨bl[b]'(by omega), List.getElem?_eq_getElem (by omega)⟩
    have hxm := List.mem_of_getElem? hx
    obtain ⟨p1, p2, p3⟩ := hPo.1 x hxm
    have ho48 := hOb.1
    rw [fLn, hx]
    obtain ⟨R, hR⟩ : ∃ R, R = lnL tx ns us fl bl (lbs tx 20000 (x.op + 1) z.1.length).1 (lbs tx 20000 (x.op + 1) z.1.length).2 b x.lc z.1.length 20000 (x.op + 1) z := ⟨_, rfl⟩
    obtain ⟨T, t1, t2, t3⟩ := m_linesB hP hV hu hO hOb hZ hoz hx p1 (h2 x hxm) hR
    have hRo := lnL_o (tx := tx) (ns := ns) (us := us) (fl := fl) (bl := bl) (ls := (lbs tx 20000 (x.op + 1) z.1.length).1) (en := (lbs tx 20000 (x.op + 1) z.1.length).2) (b := b) (lc := x.lc) z.1.length 20000 (x.op + 1) z
    rw [← hR] at hRo
    have hstep : ja_X13_lines_L22 (m + 1) 121 P (b : Int) S = nk_bd (ja_X13_linesOf 121 P (b : Int) S) fun r1 S2 => if r1 = 0 then some (0, S2) else nk_lt (nk_w ((b : Int) + 1)) fun v4 => ja_X13_lines_L22 m 121 P v4 S2 := by
      show ja_X13_lines_b22 (ja_X13_lines_L22 m) 121 P (b : Int) S = _
      unfold ja_X13_lines_b22
      rw [hV.2.2.2.1, if_neg (by omega)]
    dsimp only
    rw [← hR]
    obtain ⟨r, w⟩ := R
    cases r with
    | some y =>
      obtain ⟨t1, t12⟩ := t1
      refine ⟨T, t2, ⟨?_, t12⟩, fun h => by cases h⟩
      rw [hstep, t1, bd_some, if_pos rfl]
    | none =>
      have t1 : ja_X13_linesOf 121 P (b : Int) S = some (1, T) := t1
      obtain ⟨u1, u2, u3⟩ := t3 rfl
      rw [t1, bd_some, if_neg (by decide), lt_eq, w_nat1 (by omega)] at hstep
      have hE' : rEl T P (el ++ [(z.1.length, (lbs tx 20000 (x.op + 1) z.1.length).2, z.2.2.1.length, w.2.2.1.length)]) := by
        intro b' e' he'
        rcases fl_case he' with ⟨l1, e1⟩ | ⟨l1, e1⟩
        · have k := t2.2.2.2.2
          rw [k _ b' (by omega) (by omega) (by omega), k _ b' (by omega) (by omega) (by omega)]
          exact hE b' e' e1
        · rw [e1, l1, hel]
          exact ⟨u2, u3⟩
      obtain ⟨S', i1, i2, i3⟩ := ih (b + 1) m d w (el ++ [(z.1.length, (lbs tx 20000 (x.op + 1) z.1.length).2, z.2.2.1.length, w.2.2.1.length)]) T (by omega) (by omega) (by omega) (rVm_KB hP t2 hV) u1 (hRo rfl hoz) (by rw [List.length_append, List.length_cons, List.length_nil]; omega) hE'
      refine ⟨S', rKB_trans (Nat.le_succ b) t2 i1, ?_, i3⟩
      rw [hstep]
      exact i2
/-- the reference's look at the lines -/
theorem m_lnAll (hP : P = 122 ∨ P = 168) (hu : uOk us) (hO : fOk us fl) (hOb : bOk us bl) {p : Nat} (hPo : bP tx bl p) (h2 : ∀ x ∈ bl, 2 ≤ x.op) {S : nk_S} (hV : rVm S tx P ns us fl bl) : ∃ S', rKB P 0 S S' ∧ mcA (fLn tx ns us fl bl 64 0 ([], [], [], []) []).1 (ja_X13_lines 121 P S) S' ∧ ((fLn tx ns us fl bl 64 0 ([], [], [], []) []).1 = none → rVm S' tx P ns us fl bl ∧ rJL S' P (fLn tx ns us fl bl 64 0 ([], [], [], []) []).2.1 ∧ rEl S' P (fLn tx ns us fl bl 64 0 ([], [], [], []) []).2.2) := by
  obtain ⟨m, hm⟩ := big_ge 100 (by decide)
  have ho48 := hOb.1
  obtain ⟨T, hT⟩ : ∃ T, T = nk_wi (nk_wi (nk_wi (nk_wi S P 3 0) P 4 0) P 5 0) P 7 0 := ⟨_, rfl⟩
  have tn : ∀ c, c ≠ P → T.1 c = S.1 c := fun c hc => by rw [hT, wi_n hc, wi_n hc, wi_n hc, wi_n hc]
  have tP : ∀ i, T.1 P i = if i = 7 ∨ i = 5 ∨ i = 4 ∨ i = 3 then 0 else S.1 P i := by
    intro i
    rw [hT, wi_at, wi_at, wi_at, wi_at]
    by_cases q7 : i = 7
    · rw [if_pos q7, if_pos (Or.inl q7)]
    rw [if_neg q7]
    by_cases q5 : i = 5
    · rw [if_pos q5, if_pos (Or.inr (Or.inl q5))]
    rw [if_neg q5]
    by_cases q4 : i = 4
    · rw [if_pos q4, if_pos (Or.inr (Or.inr (Or.inl q4)))]
    rw [if_neg q4]
    by_cases q3 : i = 3
    · rw [if_pos q3, if_pos (Or.inr (Or.inr (Or.inr q3)))]
    rw [if_neg q3, if_neg (by omega)]
  have FT : rKB P 0 S T := ⟨by rw [hT]; rfl, fun c _ _ x _ _ _ => tn c x, fun i _ _ => by rw [tn 121 (by omega)], fun i x y z w => by rw [tP, if_neg (by omega)], fun c i _ _ h => by omega⟩
  have ZT : rJL T P ([], [], [], []) := by
    refine ⟨⟨by rw [tP, if_pos (by decide)]; rfl, fun i x h => by cases h⟩, ⟨by rw [tP, if_pos (by decide)]; rfl, fun i x h => by cases h⟩, ⟨by rw [tP, if_pos (by decide)]; rfl, fun i x h => by cases h⟩, 0, by omega, by rw [tP, if_pos (by decide)]; rfl, fun i j _ h => by omega, fun y => ?_⟩
    constructor
    · rintro ⟨i, h, _⟩; omega
    · rintro ⟨x, h, _⟩; cases h
  obtain ⟨S', s1, s2, s3⟩ := m_lnsL hP hu hO hOb hPo h2 bl.length 0 nk_big 64 ([], [], [], []) [] T (by omega) (by omega) (by omega) (rVm_KB hP FT hV) ZT ⟨by show 0 ≤ 1024; decide, by show 0 ≤ 48; decide, by show 0 ≤ 64; decide, by show 0 ≤ 0; decide⟩ rfl (fun b e h => by cases h)
  refine ⟨S', rKB_trans (Nat.le_refl 0) FT s1, ?_, s3⟩
  have e : ja_X13_lines 121 P S = ja_X13_lines_L22 nk_big 121 P ((0 : Nat) : Int) T := by
    unfold ja_X13_lines
    rw [lt_eq, lt_eq, lt_eq, lt_eq, ← hT]
    rfl
  rw [e]
  exact s2
end MLO
