/-! Lines: the class's bodies, one and all. -/
def fB (Q c b : Nat) (S S' : nk_S) : Prop := S'.2 = S.2 ∧ (∀ d, d ≠ 85 → d ≠ 10 → d ≠ 11 → d ≠ Q → ¬ (Q + 18 ≤ d ∧ d ≤ Q + 21) → ¬ (Q + 23 ≤ d ∧ d ≤ Q + 29) → ¬ (Q + 31 ≤ d ∧ d ≤ Q + 35) → S'.1 d = S.1 d) ∧ (∀ i, i ≠ 2 → i ≠ 3 → i ≠ 4 → S'.1 85 i = S.1 85 i) ∧ (∀ i, i ≠ 3 → i ≠ 10 → i ≠ 12 → S'.1 Q i = S.1 Q i) ∧ (∀ d i, Q + 18 ≤ d → d ≤ Q + 21 → i < b → S'.1 d i = S.1 d i) ∧ ∀ v, v < c → shp (wd S v) ≠ 1 → S'.1 10 v = S.1 10 v ∧ S'.1 11 v = S.1 11 v
theorem wd_fB {Q c b : Nat} (hQ : Q = 13 ∨ Q = 49) {S S' : nk_S} (h : fB Q c b S S') (w : Nat) : wd S' w = wd S w := wd_congr (h.2.1 3 (by omega) (by omega) (by omega) (by omega) (by omega) (by omega) (by omega)) (by rw [h.2.1 5 (by omega) (by omega) (by omega) (by omega) (by omega) (by omega) (by omega)]) (by rw [h.2.1 6 (by omega) (by omega) (by omega) (by omega) (by omega) (by omega) (by omega)])
theorem fB_trans {Q c b b' : Nat} (hQ : Q = 13 ∨ Q = 49) (hb : b ≤ b') {S1 S2 S3 : nk_S} (h : fB Q c b S1 S2) (k : fB Q c b' S2 S3) : fB Q c b S1 S3 := by
  refine ⟨k.1.trans h.1, fun d x1 x2 x3 x4 x5 x6 x7 => (k.2.1 d x1 x2 x3 x4 x5 x6 x7).trans (h.2.1 d x1 x2 x3 x4 x5 x6 x7), fun i x y z => (k.2.2.1 i x y z).trans (h.2.2.1 i x y z), fun i x y z => (k.2.2.2.1 i x y z).trans (h.2.2.2.1 i x y z), fun d i x y z => (k.2.2.2.2.1 d i x y (by omega)).trans (h.2.2.2.2.1 d i x y z), fun v hv hs => ?_⟩
  have h1 := h.2.2.2.2.2 v hv hs
  have h2 := k.2.2.2.2.2 v hv (by rw [wd_fB hQ h]; exact hs)
  exact ⟨h2.1.trans h1.1, h2.2.trans h1.2⟩
theorem fB_g {Q c b : Nat} (hQ : Q = 13 ∨ Q = 49) {S S' : nk_S} (h : gF Q S S') : fB Q c b S S' := ⟨h.1, fun d x1 _ _ x4 _ x6 x7 => h.2.1 d x1 x4 x6 x7, h.2.2.1, h.2.2.2, fun d i x y _ => by rw [h.2.1 d (by omega) (by omega) (by omega) (by omega)], fun v _ _ => by rw [h.2.1 10 (by omega) (by omega) (by omega) (by omega), h.2.1 11 (by omega) (by omega) (by omega) (by omega)]; exact ⟨rfl, rfl⟩⟩
section CBZ
variable {tx : List (List Int)} {Q c : Nat} {ns : List (List Int)} {us : List Int} {fl : List (List Int × Nat × Int)} {bl : List jB} {z : jL}
theorem cVm_fB {b : Nat} (hQ : Q = 13 ∨ Q = 49) {S S' : nk_S} (h : fB Q c b S S') (hV : cVm S tx Q c ns us fl bl) : cVm S' tx Q c ns us fl bl := by
  obtain ⟨v1, v2, v3, v4, v5, v6⟩ := hV
  have k : ∀ d, d ≠ 85 → d ≠ 10 → d ≠ 11 → d ≠ Q → ¬ (Q + 18 ≤ d) → S'.1 d = S.1 d := fun d x1 x2 x3 x4 x5 => h.2.1 d x1 x2 x3 x4 (by omega) (by omega) (by omega)
  have w := wd_fB hQ h
  refine ⟨CF_c (k 2 (by omega) (by omega) (by omega) (by omega) (by omega)) (k 3 (by omega) (by omega) (by omega) (by omega) (by omega)) (k 4 (by omega) (by omega) (by omega) (by omega) (by omega)) (k 5 (by omega) (by omega) (by omega) (by omega) (by omega)) (k 6 (by omega) (by omega) (by omega) (by omega) (by omega)) (k 9 (by omega) (by omega) (by omega) (by omega) (by omega)) v1, cC_c (by rw [k (Q + 1) (by omega) (by omega) (by omega) (by omega) (by omega)]) (k (Q + 2) (by omega) (by omega) (by omega) (by omega) (by omega)) (k (Q + 3) (by omega) (by omega) (by omega) (by omega) (by omega)) (fun v hv hs => (h.2.2.2.2.2 v hv (by omega)).1) w v2, cM_c (fun v hv hs => h.2.2.2.2.2 v hv (by omega)) w v3, ⟨by rw [k (Q + 1) (by omega) (by omega) (by omega) (by omega) (by omega)]; exact v4.1, fun f x hx => ?_⟩, ⟨by rw [k (Q + 9) (by omega) (by omega) (by omega) (by omega) (by omega)]; exact v5.1, fun b x hx => ?_⟩, by rw [h.1]; exact v6⟩
  · have := v4.2 f x hx
    rw [k (Q + 5) (by omega) (by omega) (by omega) (by omega) (by omega), k (Q + 6) (by omega) (by omega) (by omega) (by omega) (by omega), k (Q + 7) (by omega) (by omega) (by omega) (by omega) (by omega)]
    simpa only [w] using this
  · have := v5.2 b x hx
    unfold cB1 at this ⊢
    rw [k (Q + 10) (by omega) (by omega) (by omega) (by omega) (by omega), k (Q + 11) (by omega) (by omega) (by omega) (by omega) (by omega), k (Q + 12) (by omega) (by omega) (by omega) (by omega) (by omega), k (Q + 13) (by omega) (by omega) (by omega) (by omega) (by omega), k (Q + 14) (by omega) (by omega) (by omega) (by omega) (by omega), k (Q + 15) (by omega) (by omega) (by omega) (by omega) (by omega), k (Q + 16) (by omega) (by omega) (by omega) (by omega) (by omega), k (Q + 17) (by omega) (by omega) (by omega) (by omega) (by omega)]
    simpa only [w] using this
theorem cJL_c {S S' : nk_S} (h : ∀ d, d = Q ∨ (Q + 23 ≤ d ∧ d ≤ Q + 35) → S'.1 d = S.1 d) (hZ : cJL S Q z) : cJL S' Q z := by
  unfold cJL cCd cSl cKl cTh tC at hZ ⊢
  rw [h Q (by omega), h (Q + 25) (by omega), h (Q + 26) (by omega), h (Q + 27) (by omega), h (Q + 28) (by omega), h (Q + 29) (by omega), h (Q + 31) (by omega), h (Q + 32) (by omega), h (Q + 33) (by omega), h (Q + 34) (by omega), h (Q + 35) (by omega), h (Q + 23) (by omega), h (Q + 23 + 1) (by omega)]
  exact hZ
/-- the lines of a body -/
theorem c_walkB (hQ : Q = 13 ∨ Q = 49) {S : nk_S} (hV : cVm S tx Q c ns us fl bl) (hu : uOk us) (hO : fOk us fl) (hOb : bOk us bl) (hZ : cJL S Q z) (hoz : oJL z) {b : Nat} {x : jB} (hx : bl[b]? = some x) (hxl : (fLines tx 20000 (x.op + 1)).1 = true) (hlo : ∀ v, v < c → shp (wd S v) = 1 → S.1 10 v ≤ (x.op : Int)) {R : Option Nat × jL} (hR : R = lnL tx ns us fl bl (lbs tx 20000 (x.op + 1) z.1.length).1 (lbs tx 20000 (x.op + 1) z.1.length).2 b x.lc z.1.length 20000 (x.op + 1) z) : ∃ S', ja_X6_walkLines 85 (b : Int) S = some (ccA R.1, S') ∧ fB Q c b S S' ∧ (R.1 = none → cJL S' Q R.2 ∧ oJL R.2 ∧ S'.1 (Q + 18) b = (z.1.length : Int) ∧ S'.1 (Q + 19) b = ((lbs tx 20000 (x.op + 1) z.1.length).2 : Int) ∧ S'.1 (Q + 20) b = (z.2.2.1.length : Int) ∧ S'.1 (Q + 21) b = (R.2.2.2.1.length : Int)) ∧ ∀ v, v < c → shp (wd S v) = 1 → S'.1 10 v ≤ ((fLines tx 20000 (x.op + 1)).2 : Int) := by
  have hC := hV.1
  have hT := hC.2.2.2.2.1
  have h2 := hV.2.2.2.2.2
  have hbl := at_lt hx
  have hb48 : b < 48 := by have := hOb.1; omega
  have hend := fLines_ok hxl
  obtain ⟨l1, l2, l3, l4⟩ := lbs_ok 20000 (x.op + 1) z.1.length hxl
  have hB1 := hV.2.2.2.2.1.2 b x hx
  have h17 : S.1 (Q + 17) b = (x.op : Int) := hB1.2.2.2.2.2.2.2
  have h16 : S.1 (Q + 16) b = x.lc := hB1.2.2.2.2.2.2.1
  have h1024 := hoz.1
  have hz3 : S.1 Q 3 = (z.1.length : Int) := hZ.1.1
  have hz12 : S.1 Q 12 = (z.2.2.1.length : Int) := hZ.2.2.1.1
  obtain ⟨A, hA⟩ : ∃ A, A = nk_wi (nk_wi S (Q + 18) b (z.1.length : Int)) (Q + 20) b (z.2.2.1.length : Int) := ⟨_, rfl⟩
  have an : ∀ d, d ≠ Q + 18 → d ≠ Q + 20 → A.1 d = S.1 d := fun d p q => by rw [hA, wi_n q, wi_n p]
  have CA : CF A tx c := CF_c (an 2 (by omega) (by omega)) (an 3 (by omega) (by omega)) (an 4 (by omega) (by omega)) (an 5 (by omega) (by omega)) (an 6 (by omega) (by omega)) (an 9 (by omega) (by omega)) hC
  have wA : ∀ w, wd A w = wd S w := fun w => wd_congr (an 3 (by omega) (by omega)) (by rw [an 5 (by omega) (by omega)]) (by rw [an 6 (by omega) (by omega)])
  obtain ⟨m, hm⟩ := big_ge 40000 (by decide)
  obtain ⟨B, b1, b2, b3, b4, b5⟩ := c_markL (op := x.op) 20000 (x.op + 1) z.1.length nk_big 0 A CA hxl (by omega) (by omega) (by omega) (by omega)
  obtain ⟨D, hD⟩ : ∃ D, D = nk_wi (nk_wi B (Q + 19) b ((lbs tx 20000 (x.op + 1) z.1.length).2 : Int)) 85 2 ((x.op + 1 : Nat) : Int) := ⟨_, rfl⟩
  have dn : ∀ d, d ≠ 10 → d ≠ 11 → d ≠ 85 → d ≠ Q + 18 → d ≠ Q + 19 → d ≠ Q + 20 → D.1 d = S.1 d := fun d x1 x2 x3 x4 x5 x6 => by rw [hD, wi_n x3, wi_n x5, b3 d x1 x2, an d x4 x6]
  have d10 : D.1 10 = B.1 10 := by rw [hD, wi_n (by omega), wi_n (by omega)]
  have d11 : D.1 11 = B.1 11 := by rw [hD, wi_n (by omega), wi_n (by omega)]
  have wD : ∀ w, wd D w = wd S w := fun w => wd_congr (dn 3 (by omega) (by omega) (by omega) (by omega) (by omega) (by omega)) (by rw [dn 5 (by omega) (by omega) (by omega) (by omega) (by omega) (by omega)]) (by rw [dn 6 (by omega) (by omega) (by omega) (by omega) (by omega) (by omega)])
  have FD : fB Q c b S D := by
    refine ⟨by rw [hD]; show B.2 = S.2; rw [b2, hA]; rfl, fun d x1 x2 x3 x4 x5 x6 x7 => dn d x2 x3 x1 (by omega) (by omega) (by omega), fun i x1 x2 x3 => ?_, fun i _ _ _ => by rw [dn Q (by omega) (by omega) (by omega) (by omega) (by omega) (by omega)], fun d i p q r => ?_, fun v hv hs => ?_⟩
    · rw [hD, wi_at, if_neg x1, wi_n (by omega), b3 85 (by omega) (by omega), an 85 (by omega) (by omega)]
    · by_cases e : d = Q + 19
      · subst e
        rw [hD, wi_n (by omega), wi_at, if_neg (by omega), b3 _ (by omega) (by omega), an _ (by omega) (by omega)]
      · rw [hD, wi_n (by omega), wi_n e, b3 _ (by omega) (by omega), hA]
        by_cases e2 : d = Q + 20
        · subst e2; rw [wi_at, if_neg (by omega), wi_n (by omega)]
        · rw [wi_n e2]
          by_cases e3 : d = Q + 18
          · subst e3; rw [wi_at, if_neg (by omega)]
          · rw [wi_n e3]
    · rw [d10, d11]
      have := b4 v hv (by rw [wA]; exact hs)
      rw [an 10 (by omega) (by omega), an 11 (by omega) (by omega)] at this
      exact this
  have hLb : cLb D c x.op (lbs tx 20000 (x.op + 1) z.1.length).1 := by
    intro v hv hs
    rw [wD] at hs ⊢
    have h5 := b5 v hv (by rw [wA]; exact hs)
    rw [wA, an 10 (by omega) (by omega), an 11 (by omega) (by omega), if_neg (by have := hlo v hv hs; omega)] at h5
    rw [d10, d11]
    cases hf : lfd (wd S v) (lbs tx 20000 (x.op + 1) z.1.length).1 with
    | none =>
      rw [hf] at h5
      show B.1 10 v ≤ (x.op : Int)
      rw [h5.1]
      exact hlo v hv hs
    | some q =>
      rw [hf] at h5
      have := (l1 _ (lfd_in hf)).1
      exact ⟨h5.1, h5.2, by show x.op < q.1; have h6 : x.op + 1 ≤ q.1 := this; omega⟩
  have e0 : ja_X6_walkLines 85 (b : Int) S = ja_X6_walkLines_L62 nk_big 85 (b : Int) (Q + 9) ((0 : Nat) : Int) D := by
    unfold ja_X6_walkLines
    rw [if_pos (in_i (N := 48) (by omega)), h2, (jc_Qf hQ).2.2.2.2, (jc_Qb hQ).1, (jc_Qb hQ).2.1, (jc_Qb hQ).2.2.2.1, (jc_Qb hQ).2.2.1, Int.toNat_natCast, h17, lt_eq, lt_eq, lt_eq, hz3]
    have s2 : (nk_wi S (Q + 18) b (z.1.length : Int)).2 85 1 = Q := h2
    rw [s2, wi_n (show Q ≠ Q + 18 by omega), hz12, ← hA]
    unfold ja_X6_markLabels
    have a2 : A.2 85 1 = Q := by rw [hA]; exact h2
    rw [lt_eq, lt_eq, a2, an Q (by omega) (by omega), hz3, w_nat1 (by omega)]
    have b1' : ja_X6_markLabels_L15 nk_big 85 (x.op : Int) ((x.op + 1 : Nat) : Int) (z.1.length : Int) 0 A = _ := b1
    rw [b1', bd_some, lt_eq, lt_eq, ← hD]
    rfl
  have VD := cVm_fB hQ FD hV
  have ZD : cJL D Q z := cJL_c (fun d hd => dn d (by omega) (by omega) (by omega) (by omega) (by omega) (by omega)) hZ
  have q18 : D.1 (Q + 18) b = (z.1.length : Int) := by rw [hD, wi_n (by omega), wi_n (by omega), b3 _ (by omega) (by omega), hA, wi_n (by omega), wi_at, if_pos rfl]
  have q19 : D.1 (Q + 19) b = ((lbs tx 20000 (x.op + 1) z.1.length).2 : Int) := by rw [hD, wi_n (by omega), wi_at, if_pos rfl]
  have q20 : D.1 (Q + 20) b = (z.2.2.1.length : Int) := by rw [hD, wi_n (by omega), wi_n (by omega), b3 _ (by omega) (by omega), hA, wi_at, if_pos rfl]
  obtain ⟨S', s1, ⟨T, t1, t2, t3, t4⟩, s3⟩ := c_lnL (lc := x.lc) hQ hu hO hOb hb48 z.1.length 20000 (x.op + 1) nk_big 0 z D VD ZD hoz hLb (by rw [dn _ (by omega) (by omega) (by omega) (by omega) (by omega) (by omega)]; exact h17) q19 (by rw [dn _ (by omega) (by omega) (by omega) (by omega) (by omega) (by omega)]; exact h16) q18 (by rw [hD, wi_at, if_pos rfl]) hxl (by omega) (by omega) (by omega)
  rw [← hR] at s1 s3
  have FT : fB Q c b S T := fB_trans hQ (Nat.le_refl b) FD (fB_g hQ t1)
  have FS : fB Q c b S S' := by
    refine ⟨t2.trans FT.1, fun d x1 x2 x3 x4 x5 x6 x7 => by rw [t3 d (by omega), FT.2.1 d x1 x2 x3 x4 x5 x6 x7], fun i p q r => by rw [t3 85 (by omega), FT.2.2.1 i p q r], fun i p q r => by rw [t3 Q (by omega), FT.2.2.2.1 i p q r], fun d i p q r => ?_, fun v hv hs => by rw [t3 10 (by omega), t3 11 (by omega)]; exact FT.2.2.2.2.2 v hv hs⟩
    by_cases e : d = Q + 21
    · subst e; rw [t4 i (by omega), FT.2.2.2.2.1 _ i p q r]
    · rw [t3 d e, FT.2.2.2.2.1 d i p q r]
  refine ⟨S', by rw [e0]; exact s1, FS, fun hn => ?_, fun v hv hs => ?_⟩
  · obtain ⟨u1, u2, u3⟩ := s3 hn
    have tg : ∀ d, Q + 18 ≤ d → d ≤ Q + 20 → S'.1 d = D.1 d := fun d p q => by rw [t3 d (by omega), t1.2.1 d (by omega) (by omega) (by omega) (by omega)]
    exact ⟨u1, u2, by rw [tg _ (by omega) (by omega)]; exact q18, by rw [tg _ (by omega) (by omega)]; exact q19, by rw [tg _ (by omega) (by omega)]; exact q20, u3⟩
  · rw [t3 10 (by omega), t1.2.1 10 (by omega) (by omega) (by omega) (by omega), d10]
    have h5 := b5 v hv (by rw [wA]; exact hs)
    rw [wA, an 10 (by omega) (by omega), an 11 (by omega) (by omega), if_neg (by have := hlo v hv hs; omega)] at h5
    cases hf : lfd (wd S v) (lbs tx 20000 (x.op + 1) z.1.length).1 with
    | none =>
      rw [hf] at h5
      rw [h5.1]
      have := hlo v hv hs
      omega
    | some q =>
      rw [hf] at h5
      have h6 : q.1 < (fLines tx 20000 (x.op + 1)).2 := (l1 _ (lfd_in hf)).2.1
      rw [h5.1]
      omega
def cEl (S : nk_S) (Q : Nat) (el : List (Nat × Nat × Nat × Nat)) : Prop := ∀ (b : Nat) (e : Nat × Nat × Nat × Nat), el[b]? = some e → S.1 (Q + 18) b = (e.1 : Int) ∧ S.1 (Q + 19) b = (e.2.1 : Int) ∧ S.1 (Q + 20) b = (e.2.2.1 : Int) ∧ S.1 (Q + 21) b = (e.2.2.2 : Int)
theorem c_lnsL (hQ : Q = 13 ∨ Q = 49) (hu : uOk us) (hO : fOk us fl) (hOb : bOk us bl) {p : Nat} (hP : bP tx bl p) : ∀ (e b m d : Nat) (z : jL) (el : List (Nat × Nat × Nat × Nat)) (S : nk_S), b + e = bl.length → e < d → e + 1 < m → cVm S tx Q c ns us fl bl → cJL S Q z → oJL z → el.length = b → cEl S Q el → (∀ b' x, b ≤ b' → bl[b']? = some x → ∀ v, v < c → shp (wd S v) = 1 → S.1 10 v ≤ (x.op : Int)) → ∃ S', fB Q c b S S' ∧ (match (fLn tx ns us fl bl d b z el).1 with
    | some y => ja_X6_resolveNames_L28 m 85 (-1) (b : Int) S = some ((y : Int), S')
    | none => ja_X6_resolveNames_L28 m 85 (-1) (b : Int) S = ja_X6_resolveNames_b58 85 (-1) S' ∧ cVm S' tx Q c ns us fl bl ∧ cJL S' Q (fLn tx ns us fl bl d b z el).2.1 ∧ oJL (fLn tx ns us fl bl d b z el).2.1 ∧ cEl S' Q (fLn tx ns us fl bl d b z el).2.2 ∧ (fLn tx ns us fl bl d b z el).2.2.length = bl.length) := by
  intro e
  induction e with
  | zero =>
    intro b m d z el S h1 h2 h3 hV hZ hoz hel hE hlo
    obtain ⟨d, rfl⟩ : ∃ q, d = q + 1 := ⟨d - 1, by omega⟩
    obtain ⟨m, rfl⟩ : ∃ q, m = q + 1 := ⟨m - 1, by omega⟩
    rw [fLn, List.getElem?_eq_none (show bl.length ≤ b by omega)]
    refine ⟨S, fB_g hQ gF_rfl, ?_, hV, hZ, hoz, hE, by show el.length = _; omega⟩
    show ja_X6_resolveNames_b28 (ja_X6_resolveNames_L28 m) 85 (-1) (b : Int) S = _
    unfold ja_X6_resolveNames_b28
    rw [hV.2.2.2.2.2, (jc_Qf hQ).2.2.2.2, hV.2.2.2.2.1.1, if_pos (by omega)]
  | succ e ih =>
    intro b m d z el S h1 h2 h3 hV hZ hoz hel hE hlo
    obtain ⟨d, rfl⟩ : ∃ q, d = q + 1 := ⟨d - 1, by omega⟩
    obtain ⟨m, rfl⟩ : ∃ q, m = q + 1 := ⟨m - 1, by omega⟩
    obtain ⟨x, hx⟩ : ∃ x, bl[b]? = some x := ⟨bl[b]'(by omega), List.getElem?_eq_getElem (by omega)⟩
    have hxm := List.mem_of_getElem? hx
    obtain ⟨p1, p2, p3⟩ := hP.1 x hxm
    have ho48 := hOb.1
    rw [fLn, hx]
    obtain ⟨R, hR⟩ : ∃ R, R = lnL tx ns us fl bl (lbs tx 20000 (x.op + 1) z.1.length).1 (lbs tx 20000 (x.op + 1) z.1.length).2 b x.lc z.1.length 20000 (x.op + 1) z := ⟨_, rfl⟩
    obtain ⟨T, t1, t2, t3, t4⟩ := c_walkB hQ hV hu hO hOb hZ hoz hx p1 (hlo b x (Nat.le_refl b) hx) hR
    have hstep : ja_X6_resolveNames_L28 (m + 1) 85 (-1) (b : Int) S = ja_X6_resolveNames_L28 m 85 (ccA R.1) ((b + 1 : Nat) : Int) T := by
      show ja_X6_resolveNames_b28 (ja_X6_resolveNames_L28 m) 85 (-1) (b : Int) S = _
      unfold ja_X6_resolveNames_b28
      rw [hV.2.2.2.2.2, (jc_Qf hQ).2.2.2.2, hV.2.2.2.2.1.1, if_neg (by omega), if_neg (by decide), t1, bd_some, lt_eq, w_nat1 (by omega)]
    have VT := cVm_fB hQ t2 hV
    dsimp only
    rw [← hR]
    obtain ⟨r, w⟩ := R
    cases r with
    | some y =>
      refine ⟨T, t2, ?_⟩
      show ja_X6_resolveNames_L28 (m + 1) 85 (-1) (b : Int) S = some ((y : Int), T)
      rw [hstep]
      obtain ⟨m, rfl⟩ : ∃ q, m = q + 1 := ⟨m - 1, by omega⟩
      show ja_X6_resolveNames_b28 (ja_X6_resolveNames_L28 m) 85 (y : Int) ((b + 1 : Nat) : Int) T = _
      have h58 : ja_X6_resolveNames_b58 85 (y : Int) T = some ((y : Int), T) := by
        unfold ja_X6_resolveNames_b58
        rw [if_neg (by omega)]
      unfold ja_X6_resolveNames_b28
      by_cases q : T.1 (ja_c (T.2 85 1) 1) 0 ≤ ((b + 1 : Nat) : Int)
      · rw [if_pos q]; exact h58
      · rw [if_neg q, if_pos (by omega)]; exact h58
    | none =>
      obtain ⟨u1, u2, u3, u4, u5, u6⟩ := t3 rfl
      have hE' : cEl T Q (el ++ [(z.1.length, (lbs tx 20000 (x.op + 1) z.1.length).2, z.2.2.1.length, w.2.2.1.length)]) := by
        intro b' e' he'
        rcases fl_case he' with ⟨l1, e1⟩ | ⟨l1, e1⟩
        · have k := t2.2.2.2.2.1
          rw [k _ b' (by omega) (by omega) (by omega), k _ b' (by omega) (by omega) (by omega), k _ b' (by omega) (by omega) (by omega), k _ b' (by omega) (by omega) (by omega)]
          exact hE b' e' e1
        · rw [e1, l1, hel]
          exact ⟨u3, u4, u5, u6⟩
      have hlo' : ∀ b' y, b + 1 ≤ b' → bl[b']? = some y → ∀ v, v < c → shp (wd T v) = 1 → T.1 10 v ≤ (y.op : Int) := by
        intro b' y hb' hy v hv hs
        have h5 := t4 v hv (by rw [← wd_fB hQ t2]; exact hs)
        have h6 := hP.2 b b' x y (by omega) hx hy
        have h7 := (hP.1 y (List.mem_of_getElem? hy)).2.1
        omega
      obtain ⟨S', i1, i2⟩ := ih (b + 1) m d w (el ++ [(z.1.length, (lbs tx 20000 (x.op + 1) z.1.length).2, z.2.2.1.length, w.2.2.1.length)]) T (by omega) (by omega) (by omega) VT u1 u2 (by rw [List.length_append, List.length_cons, List.length_nil]; omega) hE' hlo'
      refine ⟨S', fB_trans hQ (Nat.le_succ b) t2 i1, ?_⟩
      rw [hstep]
      exact i2
end CBZ
