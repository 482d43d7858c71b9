/-! Settled: the reference, whole. -/
def mnR (ns : List (List Int)) : List jB → Nat → Int → Int
  | [], _, v => v
  | x :: l, b, v => mnR ns l (b + 1) (if (ns.getD x.ow [] = fx.getD 68 [] ∧ x.nm = fx.getD 69 []) ∧ x.me = false ∧ x.ps.length = 0 ∧ x.rs = -1 then (b : Int) else v)
theorem mnR_no {ns : List (List Int)} : ∀ (l : List jB) (i : Nat) (v : Int), (∀ x ∈ l, ¬ (ns.getD x.ow [] = fx.getD 68 [] ∧ x.nm = fx.getD 69 [])) → mnR ns l i v = v := by
  intro l
  induction l with
  | nil => intro i v _; rfl
  | cons x l ih =>
    intro i v h
    rw [mnR, if_neg (fun e => h x List.mem_cons_self e.1)]
    exact ih (i + 1) v (fun y hy => h y (List.mem_cons_of_mem _ hy))
theorem mnR_L {ns : List (List Int)} : ∀ (l : List jB) (i : Nat), (∀ (a b : Nat) (x y : jB), a < b → l[a]? = some x → l[b]? = some y → ¬ ((ns.getD x.ow [] = fx.getD 68 [] ∧ x.nm = fx.getD 69 []) ∧ ns.getD y.ow [] = fx.getD 68 [] ∧ y.nm = fx.getD 69 [])) → mnR ns l i (-1) = mnL ns l i := by
  intro l
  induction l with
  | nil => intro i _; rfl
  | cons x l ih =>
    intro i h
    rw [mnR, mnL]
    by_cases q : ns.getD x.ow [] = fx.getD 68 [] ∧ x.nm = fx.getD 69 []
    · rw [if_pos q, mnR_no l _ _ (fun y hy hc => by
        obtain ⟨k, hk, e⟩ := List.mem_iff_getElem.mp hy
        refine h 0 (k + 1) x y (by omega) rfl ?_ ⟨q, hc⟩
        rw [List.getElem?_cons_succ, List.getElem?_eq_getElem hk, e])]
      by_cases q2 : x.me = false ∧ x.ps.length = 0 ∧ x.rs = -1
      · rw [if_pos ⟨q, q2⟩, if_pos q2]
      · rw [if_neg (fun e => q2 e.2), if_neg q2]
    · rw [if_neg q, if_neg (fun e => q e.1)]
      exact ih (i + 1) (fun a b x y hab hx hy => h (a + 1) (b + 1) x y (by omega) (by simpa using hx) (by simpa using hy))
section MSU
variable {tx : List (List Int)} {P : Nat} {ns : List (List Int)} {us : List Int} {fl : List (List Int × Nat × Int)} {bl : List jB}
theorem m_maL (hP : P = 122 ∨ P = 168) (hOb : bOk us bl) (h8 : ∀ x ∈ bl, 8 ≤ x.ow) (hrs : ∀ x ∈ bl, x.rs = -1 ∨ 1 ≤ x.rs) : ∀ (e b m : Nat) (v : Int) (S : nk_S), rVm S tx P ns us fl bl → S.1 P 6 = v → b + e = bl.length → e < m → ∃ S', ja_X13_settled_L235 m 121 P (b : Int) S = (if 0 ≤ mnR ns (bl.drop b) b v then some (1, S') else some (0, nk_wi S' 121 12 (tx.length : Int))) ∧ S'.2 = S.2 ∧ (∀ c, c ≠ P → S'.1 c = S.1 c) ∧ (∀ i, i ≠ 6 → S'.1 P i = S.1 P i) ∧ S'.1 P 6 = mnR ns (bl.drop b) b v := by
  have h48 := hOb.1
  intro e
  induction e with
  | zero =>
    intro b m v S hV hv h1 h2
    obtain ⟨m, rfl⟩ : ∃ q, m = q + 1 := ⟨m - 1, by omega⟩
    rw [List.drop_eq_nil_of_le (by omega)]
    refine ⟨S, ?_, rfl, fun _ _ => rfl, fun _ _ => rfl, hv⟩
    show ja_X13_settled_b235 (ja_X13_settled_L235 m) 121 P (b : Int) S = if 0 ≤ v then _ else _
    unfold ja_X13_settled_b235
    rw [hV.2.2.2.1, if_pos (by omega), hv, hV.1.1]
    rfl
  | succ e ih =>
    intro b m v S hV hv h1 h2
    obtain ⟨m, rfl⟩ : ∃ q, m = q + 1 := ⟨m - 1, by omega⟩
    obtain ⟨x, x1, x2⟩ := drop_at (show b < bl.length by omega)
    have hxm := List.mem_of_getElem? x1
    have hx8 := h8 x hxm
    have hxo := hOb.2.1 b x x1
    have hul : us.length = ns.length := hV.2.1.2.2.1
    have hns := hV.2.1.2.1
    have hT := hV.1.2.1
    obtain ⟨y1, y2, y3, y4, y5, y6, y7, y8, -⟩ := hV.2.2.2.2 b x x1
    obtain ⟨q, q1, q2, q3⟩ := hV.2.1.2.2.2.2.2 x.ow hx8 (by omega)
    have hql := at_lt q2
    have hyl := at_lt y8
    have hrs1 : rvT x.rs = -1 ↔ x.rs = -1 := by
      rcases hrs x hxm with h | h
      · rw [h]; exact ⟨fun _ => rfl, fun _ => rfl⟩
      · have := rv_neg (t := x.rs) (by omega)
        constructor
        · intro e; have := this.mpr (by omega); omega
        · intro e; omega
    have i1 : ja_X13_is 121 (q : Int) 39 S = some (bi (decide (ns.getD x.ow [] = fx.getD 68 [])), S) := by
      rw [m_is hV.1 ok_t.2.2.2.2.2.2.2.2.2.2.2.2.2.2.2.2.1 q (by omega), tx_t.2.2.2.2.2.2.2.2.2.2.2.2.2.1, q2]
      refine congrArg (fun z => some (z, S)) (bi_iff ?_)
      exact ⟨fun h => Option.some.inj h, fun h => by rw [h]⟩
    have i2 : ja_X13_is 121 ((x.tk + 1 : Nat) : Int) 41 S = some (bi (decide (x.nm = fx.getD 69 [])), S) := by
      rw [m_is hV.1 ok_t.2.2.2.2.2.2.2.2.2.2.2.2.2.2.2.2.2 (x.tk + 1) (by omega), tx_t.2.2.2.2.2.2.2.2.2.2.2.2.2.2.1, y8]
      refine congrArg (fun z => some (z, S)) (bi_iff ?_)
      exact ⟨fun h => Option.some.inj h, fun h => by rw [h]⟩
    have y1' : S.1 (P + (13 - 7)) b = (x.ow : Int) := y1
    have y2' : S.1 (P + (14 - 7)) b = bi x.me := y2
    have y3' : S.1 (P + (15 - 7)) b = (x.ps.length : Int) := y3
    have y5' : S.1 (P + (17 - 7)) b = rvT x.rs := y5
    have hstep : ja_X13_settled_L235 (m + 1) 121 P (b : Int) S = if (ns.getD x.ow [] = fx.getD 68 [] ∧ x.nm = fx.getD 69 []) ∧ x.me = false ∧ x.ps.length = 0 ∧ x.rs = -1 then ja_X13_settled_L235 m 121 P ((b + 1 : Nat) : Int) (nk_wi S P 6 (b : Int)) else ja_X13_settled_L235 m 121 P ((b + 1 : Nat) : Int) S := by
      show ja_X13_settled_b235 (ja_X13_settled_L235 m) 121 P (b : Int) S = _
      unfold ja_X13_settled_b235
      rw [hV.2.2.2.1, if_neg (by omega), if_pos (in_i (N := 48) (by omega)), (jcP hP 13 (by decide) : ja_c P 13 = P + 6), (jcP hP 14 (by decide) : ja_c P 14 = P + 7), (jcP hP 15 (by decide) : ja_c P 15 = P + 8), (jcP hP 17 (by decide) : ja_c P 17 = P + 10), jc_121_13, jc_121_15, Int.toNat_natCast, y1', if_pos (in_i (N := 32) (by omega)), Int.toNat_natCast, q1, i1, bd_some, w_nat1 (by omega)]
      by_cases c1 : ns.getD x.ow [] = fx.getD 68 []
      · rw [decide_eq_true c1, if_neg (show ¬ bi true = 0 by decide), y7, i2, bd_some]
        by_cases c2 : x.nm = fx.getD 69 []
        · rw [decide_eq_true c2, if_neg (show ¬ bi true = 0 by decide), y2', y3', y5']
          cases hme : x.me with
          | true => rw [if_neg (show ¬ bi true = 0 by decide), if_neg (fun h => by cases h.2.1)]; rfl
          | false =>
            rw [if_pos (show bi false = 0 from rfl)]
            by_cases c3 : x.ps.length = 0
            · rw [if_pos (show (x.ps.length : Int) = 0 by omega)]
              by_cases c4 : x.rs = -1
              · rw [if_pos (hrs1.mpr c4), if_pos (show (ns.getD x.ow [] = fx.getD 68 [] ∧ x.nm = fx.getD 69 []) ∧ false = false ∧ x.ps.length = 0 ∧ x.rs = -1 from ⟨⟨c1, c2⟩, rfl, c3, c4⟩)]; rfl
              · rw [if_neg (fun h => c4 (hrs1.mp h)), if_neg (fun h => c4 h.2.2.2)]; rfl
            · rw [if_neg (show ¬ (x.ps.length : Int) = 0 by omega), if_neg (fun h => c3 h.2.2.1)]; rfl
        · rw [decide_eq_false c2, if_pos (show bi false = 0 from rfl), if_neg (fun h => c2 h.1.2)]; rfl
      · rw [decide_eq_false c1, if_pos (show bi false = 0 from rfl), if_neg (fun h => c1 h.1.1)]; rfl
    rw [x2, mnR]
    by_cases q : (ns.getD x.ow [] = fx.getD 68 [] ∧ x.nm = fx.getD 69 []) ∧ x.me = false ∧ x.ps.length = 0 ∧ x.rs = -1
    · rw [if_pos q] at hstep ⊢
      obtain ⟨T, hTT⟩ : ∃ T, T = nk_wi S P 6 (b : Int) := ⟨_, rfl⟩
      rw [← hTT] at hstep
      have ST : rS P S T := ⟨by rw [hTT]; rfl, fun c _ x2 _ _ _ _ _ => by rw [hTT]; exact wi_n x2, fun i _ => by rw [hTT, wi_n (by omega)], fun i x _ => by rw [hTT, wi_at, if_neg x]⟩
      obtain ⟨S', j1, j2, j3, j4, j5⟩ := ih (b + 1) m (b : Int) T (rVm_S hP ST hV) (by rw [hTT, wi_at, if_pos rfl]) (by omega) (by omega)
      exact ⟨S', by rw [hstep]; exact j1, by rw [j2, hTT]; rfl, fun c hc => by rw [j3 c hc, hTT, wi_n hc], fun i hi => by rw [j4 i hi, hTT, wi_at, if_neg hi], j5⟩
    · rw [if_neg q] at hstep ⊢
      obtain ⟨S', j1, j2, j3, j4, j5⟩ := ih (b + 1) m v S hV hv (by omega) (by omega)
      exact ⟨S', by rw [hstep]; exact j1, j2, j3, j4, j5⟩
/-- places of fields, sizes of objects, meant bodies of the classes so far -/
def rPl (S : nk_S) (P j : Nat) (us : List Int) (fl : List (List Int × Nat × Int)) (bl : List jB) : Prop := (∀ c, c < j → S.1 (P + 2) c = (nOf us fl c : Int)) ∧ (∀ (f : Nat) (x : List Int × Nat × Int), fl[f]? = some x → x.2.1 < j → S.1 (P + 5) f = ((nUp us fl x.2.1 + cntF (fl.take f) x.2.1 : Nat) : Int)) ∧ ∀ (c b : Nat) (x : jB), c < j → bl[b]? = some x → S.1 (P + 14) (c * 48 + b) = bdL us c x.nm bl 0 (-1)
theorem m_clL (hP : P = 122 ∨ P = 168) (hu : uOk us) (hO : fOk us fl) (hOb : bOk us bl) : ∀ (e j m : Nat) (S : nk_S), rVm S tx P ns us fl bl → rPl S P j us fl bl → j + e = ns.length → e < m → ∃ S', ja_X13_settled_L81 m 121 P (j : Int) S = ja_X13_settled_L235 nk_big 121 P 0 (nk_wi S' P 6 (-1)) ∧ rS P S S' ∧ (∀ i, S'.1 P i = S.1 P i) ∧ S'.1 (P + 20) = S.1 (P + 20) ∧ S'.1 (P + 26) = S.1 (P + 26) ∧ rPl S' P ns.length us fl bl := by
  have h48 := hOb.1
  have hf48 := hO.1
  intro e
  induction e with
  | zero =>
    intro j m S hV hp h1 h2
    obtain ⟨m, rfl⟩ : ∃ q, m = q + 1 := ⟨m - 1, by omega⟩
    have hcnt : ja_X13_classCount 121 P S = some ((ns.length : Int), S) := by
      have := rC_len hV.2.1
      have := hV.2.1.2.1
      unfold ja_X13_classCount
      rw [hV.2.1.1, show (8 : Int) + ((ns.length - 8 : Nat) : Int) = (ns.length : Int) by omega, w_n0 (by omega)]
    refine ⟨S, ?_, ⟨rfl, fun _ _ _ _ _ _ _ _ => rfl, fun _ _ => rfl, fun _ _ _ => rfl⟩, fun _ => rfl, rfl, rfl, by rw [show ns.length = j by omega]; exact hp⟩
    show ja_X13_settled_b81 (ja_X13_settled_L81 m) 121 P (j : Int) S = _
    unfold ja_X13_settled_b81
    rw [hcnt, bd_some, if_pos (by omega), lt_eq]
  | succ e ih =>
    intro j m S hV hp h1 h2
    obtain ⟨m, rfl⟩ : ∃ q, m = q + 1 := ⟨m - 1, by omega⟩
    have h8 := rC_len hV.2.1
    have hns := hV.2.1.2.1
    have hul : us.length = ns.length := hV.2.1.2.2.1
    have hcnt : ja_X13_classCount 121 P S = some ((ns.length : Int), S) := by
      unfold ja_X13_classCount
      rw [hV.2.1.1, show (8 : Int) + ((ns.length - 8 : Nat) : Int) = (ns.length : Int) by omega, w_n0 (by omega)]
    obtain ⟨p1, p2, p3⟩ := hp
    have hup : S.1 (P + (8 - 7)) j = us.getD j 0 := hV.2.1.2.2.2.1 j (by omega)
    have hnle := nOf_le (us := us) hf48 64
    have hnu : nUp us fl j < 10000 := by
      unfold nUp
      split
      · omega
      · have := hnle (us.getD j 0).toNat
        unfold nOf
        omega
    have hstep : ja_X13_settled_L81 (m + 1) 121 P (j : Int) S = ja_X13_settled_L118 (ja_X13_settled_L81 m) nk_big 121 P (j : Int) ((nUp us fl j + cntF (fl.take 0) j : Nat) : Int) ((0 : Nat) : Int) S := by
      show ja_X13_settled_b81 (ja_X13_settled_L81 m) 121 P (j : Int) S = _
      unfold ja_X13_settled_b81
      rw [hcnt, bd_some, if_neg (by omega), if_pos (in_i (N := 32) (by omega)), (jcP hP 8 (by decide) : ja_c P 8 = P + 1), (jcP hP 9 (by decide) : ja_c P 9 = P + 2), Int.toNat_natCast, hup]
      have e0 : cntF (fl.take 0) j = 0 := rfl
      rw [e0, Nat.add_zero]
      by_cases q : j = 0
      · have e1 : us.getD j 0 = -1 := by rw [q]; exact hu.1
        have e2 : nUp us fl j = 0 := by unfold nUp; rw [e1, if_pos (by decide)]
        rw [e1, if_neg (by decide), e2]
        rfl
      · obtain ⟨u, u1, u2⟩ := hu.2 j (by omega) (by omega)
        have e2 : nUp us fl j = nOf us fl u := by unfold nUp; rw [u1, if_neg (by omega), Int.toNat_natCast]
        have e3 : S.1 (P + (9 - 7)) u = (nOf us fl u : Int) := p1 u u2
        rw [u1, if_pos (by omega), if_pos (in_i (N := 32) (by omega)), lt_eq, Int.toNat_natCast, e3, e2]
        rfl
    obtain ⟨bm, hbm⟩ := big_ge 100 (by decide)
    obtain ⟨T, t1, t2, t3, t4⟩ := m_plL (us := us) (fl := fl) (j := j) hP hf48 (by omega) hnu (rec81 := ja_X13_settled_L81 m) fl.length 0 nk_big S hV.2.2.1.1 (fun f x hx => (hV.2.2.1.2 f x hx).1) (by omega) (by omega)
    obtain ⟨U, hU⟩ : ∃ U, U = nk_wi T (P + 2) j ((nUp us fl j + cntF fl j : Nat) : Int) := ⟨_, rfl⟩
    rw [← hU] at t1
    have un : ∀ c, c ≠ P + 2 → c ≠ P + 5 → U.1 c = S.1 c := fun c x y => by rw [hU, wi_n x, t3 c y]
    have SU : rS P S U := ⟨by rw [hU]; exact t2, fun c _ _ x3 x4 _ _ _ => un c x3 x4, fun i _ => by rw [un 121 (by omega) (by omega)], fun i _ _ => by rw [un P (by omega) (by omega)]⟩
    have VU := rVm_S hP SU hV
    obtain ⟨W, w1, w2, w3, w4, w5⟩ := m_mnL (tx := tx) (fl := fl) (j := j) hP hu hOb (by omega) (rec81 := ja_X13_settled_L81 m) bl.length 0 nk_big U VU (by omega) (by omega)
    have SW : rS P S W := rS_trans SU ⟨w2, fun c _ _ _ _ x5 _ _ => w3 c x5, fun i _ => by rw [w3 121 (by omega)], fun i _ _ => by rw [w3 P (by omega)]⟩
    have hpW : rPl W P (j + 1) us fl bl := by
      refine ⟨fun c hc => ?_, fun f x hx hc => ?_, fun c b x hc hx => ?_⟩
      · rw [w3 _ (by omega), hU, wi_at]
        by_cases q : c = j
        · rw [if_pos q, q, nOf_eq hu (by omega) (by omega)]
        · rw [if_neg q, t3 _ (by omega)]
          exact p1 c (by omega)
      · rw [w3 _ (by omega), hU, wi_n (by omega), t4 f x hx]
        by_cases q : x.2.1 = j
        · rw [if_pos ⟨Nat.zero_le _, q⟩, q]
        · rw [if_neg (fun h => q h.2)]
          exact p2 f x hx (by omega)
      · by_cases q : c = j
        · subst q
          rw [w5 b x hx, if_pos (Nat.zero_le _)]
        · have hb := at_lt hx
          rw [w4 _ (by omega), un _ (by omega) (by omega)]
          exact p3 c b x (by omega) hx
    obtain ⟨S', i1, i2, i3, i4, i5, i6⟩ := ih (j + 1) m W (rVm_S hP SW hV) hpW (by omega) (by omega)
    refine ⟨S', ?_, rS_trans SW i2, fun i => by rw [i3 i, w3 P (by omega), un P (by omega) (by omega)], by rw [i4, w3 _ (by omega), un _ (by omega) (by omega)], by rw [i5, w3 _ (by omega), un _ (by omega) (by omega)], i6⟩
    rw [hstep, t1]
    have w1' : ja_X13_settled_L165 (ja_X13_settled_L81 m) nk_big 121 P (j : Int) 0 U = ja_X13_settled_L81 m 121 P ((j + 1 : Nat) : Int) W := w1
    rw [w1']
    exact i1
/-- the reference settles a program -/
theorem m_settled (hP : P = 122 ∨ P = 168) (hu : uOk us) (hO : fOk us fl) (hOb : bOk us bl) (hX : bTx tx ns bl) (h8 : ∀ x ∈ bl, 8 ≤ x.ow) (hD : nsD ns) {z : jL} (hoz : oJL z) {S : nk_S} (hV : rVm S tx P ns us fl bl) (hZ : rJL S P z) : ∃ S', mcA (if 0 ≤ mnL ns bl 0 then none else some tx.length) (ja_X13_settled 121 P S) S' ∧ rS P S S' ∧ (0 ≤ mnL ns bl 0 → S'.1 P 6 = mnL ns bl 0 ∧ rPl S' P ns.length us fl bl ∧ (∀ i, 48 ≤ i → i < 54 → S'.1 (P + 20) i = ((10 + (i - 48) : Nat) : Int)) ∧ (∀ i, i < 48 → S'.1 (P + 20) i = S.1 (P + 20) i) ∧ ∃ n, rTn S' P n (fun y => th7 y ∨ ∃ x ∈ z.2.2.2, nbr x y)) := by
  obtain ⟨n, n1, n2⟩ := hZ.2.2.2
  have ho1 := hoz.1
  have ho4 := hoz.2.2.2
  have hul : us.length = ns.length := hV.2.1.2.2.1
  have h48 := hOb.1
  have hns := hV.2.1.2.1
  obtain ⟨bm, hbm⟩ := big_ge 100 (by decide)
  obtain ⟨A, na, a1, a2, a3, a4⟩ := m_st7 hP n2 (by omega)
  have SA : rS P S A := rS_T hP a4
  obtain ⟨B, b1, b2, b3, b4⟩ := m_six hP 6 0 nk_big A (by omega) (by omega)
  have SB : rS P S B := rS_trans SA ⟨b2, fun c _ _ _ _ _ x _ => b3 c x, fun i _ => by rw [b3 121 (by omega)], fun i _ _ => by rw [b3 P (by omega)]⟩
  have VB := rVm_S hP SB hV
  obtain ⟨D, d1, d2, d3, d4, d5, d6⟩ := m_clL hP hu hO hOb ns.length 0 nk_big B VB ⟨fun c h => by omega, fun f x _ h => by omega, fun c b x h => by omega⟩ (by omega) (by omega)
  obtain ⟨E, hE⟩ : ∃ E, E = nk_wi D P 6 (-1) := ⟨_, rfl⟩
  have SE : rS P S E := rS_trans (rS_trans SB d2) ⟨by rw [hE]; rfl, fun c _ x2 _ _ _ _ _ => by rw [hE]; exact wi_n x2, fun i _ => by rw [hE, wi_n (by omega)], fun i x _ => by rw [hE, wi_at, if_neg x]⟩
  have VE := rVm_S hP SE hV
  have hrs : ∀ x ∈ bl, x.rs = -1 ∨ 1 ≤ x.rs := by
    intro x hx
    obtain ⟨t1, -, -, t4, -⟩ := hX x hx
    have : x.rs = tyC ns (tx.getD ((pT tx ns 20000 (x.tk + 3)).2 + 1) []) := by
      conv => lhs; rw [t1]
      rfl
    have := tyC_rg ns (tx.getD ((pT tx ns 20000 (x.tk + 3)).2 + 1) [])
    omega
  obtain ⟨G, g1, g2, g3, g4, g5⟩ := m_maL hP hOb h8 hrs bl.length 0 nk_big (-1) E VE (by rw [hE, wi_at, if_pos rfl]) (by omega) (by omega)
  have hmn : mnR ns bl 0 (-1) = mnL ns bl 0 := by
    refine mnR_L bl 0 (fun a b x y hab hx hy hc => ?_)
    have o1 := hOb.2.1 a x hx
    have o2 := hOb.2.1 b y hy
    have e1 := (amx_nsD hD (show x.ow < ns.length by omega) (fx.getD 68 [])).mp hc.1.1
    have e2 := (amx_nsD hD (show y.ow < ns.length by omega) (fx.getD 68 [])).mp hc.2.1
    exact (hOb.2.2 a b x y hab hx hy).2 ⟨by rw [hc.1.2, hc.2.2], by omega⟩
  rw [List.drop_zero, hmn] at g1 g5
  have SG : rS P S G := rS_trans SE ⟨g2, fun c _ x2 _ _ _ _ _ => g3 c x2, fun i _ => by rw [g3 121 (by omega)], fun i x _ => g4 i x⟩
  have etot : ja_X13_settled 121 P S = if 0 ≤ mnL ns bl 0 then some (1, G) else some (0, nk_wi G 121 12 (tx.length : Int)) := by
    rw [a1]
    have b1' : ja_X13_settled_L54 nk_big 121 P 0 A = ja_X13_settled_L81 nk_big 121 P 0 B := b1
    have d1' : ja_X13_settled_L81 nk_big 121 P 0 B = ja_X13_settled_L235 nk_big 121 P 0 (nk_wi D P 6 (-1)) := d1
    have g1' : ja_X13_settled_L235 nk_big 121 P 0 E = if 0 ≤ mnL ns bl 0 then some (1, G) else some (0, nk_wi G 121 12 (tx.length : Int)) := g1
    rw [b1', d1', ← hE, g1']
  rw [etot]
  by_cases q : 0 ≤ mnL ns bl 0
  · rw [if_pos q, if_pos q]
    refine ⟨G, rfl, SG, fun _ => ⟨g5, ?_, fun i h1 h2 => ?_, fun i hi => ?_, na, ?_⟩⟩
    · obtain ⟨p1, p2, p3⟩ := d6
      have gd : ∀ c, c ≠ P → G.1 c = D.1 c := fun c hc => by rw [g3 c hc, hE, wi_n hc]
      refine ⟨fun c hc => by rw [gd _ (by omega)]; exact p1 c hc, fun f x hx hc => by rw [gd _ (by omega)]; exact p2 f x hx hc, fun c b x hc hx => by rw [gd _ (by omega)]; exact p3 c b x hc hx⟩
    · rw [g3 _ (by omega), hE, wi_n (by omega), d4, b4, if_pos (by omega)]
    · rw [g3 _ (by omega), hE, wi_n (by omega), d4, b4, if_neg (by omega), a4.2.1 _ (by omega) (by omega)]
    · unfold rTn at a3 ⊢
      rw [g3 (P + 26) (by omega), hE, wi_n (show P + 26 ≠ P by omega), d5, b3 _ (by omega), g4 7 (by decide), hE, wi_at, if_neg (by decide), d3 7, b3 P (by omega)]
      exact a3
  · rw [if_neg q, if_neg q]
    exact ⟨_, ⟨rfl, by rw [wi_at, if_pos rfl]⟩, rS_trans SG ⟨rfl, fun c x1 _ _ _ _ _ _ => wi_n x1, fun i x => by rw [wi_at, if_neg x], fun i _ _ => by rw [wi_n (by omega)]⟩, fun h => absurd h q⟩
end MSU
