/-! Members: the reference's bodies and fields. -/
def rF (P : Nat) (S S' : nk_S) : Prop := S'.2 = S.2 ∧ (∀ b, b ≠ 121 → ¬ (219 ≤ b ∧ b ≤ 221) → b ≠ P → ¬ (P + 3 ≤ b ∧ b ≤ P + 11) → S'.1 b = S.1 b) ∧ (∀ i, i ≠ 12 → S'.1 121 i = S.1 121 i) ∧ ∀ i, i ≠ 1 → i ≠ 2 → S'.1 P i = S.1 P i
theorem rF_trans {P : Nat} {S1 S2 S3 : nk_S} (h : rF P S1 S2) (k : rF P S2 S3) : rF P S1 S3 := ⟨k.1.trans h.1, fun b x y z w => (k.2.1 b x y z w).trans (h.2.1 b x y z w), fun i x => (k.2.2.1 i x).trans (h.2.2.1 i x), fun i x y => (k.2.2.2 i x y).trans (h.2.2.2 i x y)⟩
theorem rF_rfl {P : Nat} {S : nk_S} : rF P S S := ⟨rfl, fun _ _ _ _ _ => rfl, fun _ _ => rfl, fun _ _ _ => rfl⟩
theorem rF_G {P n : Nat} (hP : P = 122 ∨ P = 168) {S S' : nk_S} (h : rG P n S S') : rF P S S' := ⟨h.1, fun b x y _ w => h.2.1 b x (by omega) (by omega), h.2.2.1, fun i _ _ => by rw [h.2.1 P (by omega) (by omega) (by omega)]⟩
section MBE
variable {tx : List (List Int)} {P : Nat} {ns : List (List Int)} {us : List Int}
theorem MW_F (hP : P = 122 ∨ P = 168) {S S' : nk_S} (h : rF P S S') (hM : MW S tx) : MW S' tx := MW_c (h.2.2.1 10 (by decide)) (h.2.1 216 (by omega) (by omega) (by omega) (by omega)) (h.2.1 217 (by omega) (by omega) (by omega) (by omega)) (h.2.1 215 (by omega) (by omega) (by omega) (by omega)) hM
theorem rC_F (hP : P = 122 ∨ P = 168) {S S' : nk_S} (h : rF P S S') (hC : rC S tx P ns us) : rC S' tx P ns us := rC_c (h.2.2.2 0 (by decide) (by decide)) (h.2.1 (P + 1) (by omega) (by omega) (by omega) (by omega)) (h.2.1 218 (by omega) (by omega) (by omega) (by omega)) hC
theorem m_row {S : nk_S} (hM : MW S tx) {a : Nat} (ha : bodyAt tx a) {x : jB} (hx : x = nB tx ns x.ow x.tk) (hxb : bodyAt tx x.tk) (hxm : mis (pT tx ns 20000 (x.tk + 3)).1 (x.tk + 3) < 0) (hxr : x.rs ≠ -2) : ja_X13_isSameRow 121 ((a + 2 : Nat) : Int) ((x.tk + 2 : Nat) : Int) S = some (bi (decide ((pT tx ns 20000 (a + 3)).1 = (pT tx ns 20000 (x.tk + 3)).1 ∧ tyC ns (tx.getD ((pT tx ns 20000 (a + 3)).2 + 1) []) = x.rs)), S) := by
  obtain ⟨k1, k2, k3, k4, k5, k6, k7⟩ := hd_kind (ns := ns) ha
  obtain ⟨l1, l2, l3, l4, l5, l6, l7⟩ := hd_kind (ns := ns) hxb
  have hT := hM.2.1
  have g6 := fW_T k6
  have h6 := fW_T l6
  obtain ⟨p1, p2, p3, p4, -⟩ := pT_ok (ns := ns) 20000 (a + 3) k1
  obtain ⟨q1, q2, q3, q4, -⟩ := pT_ok (ns := ns) 20000 (x.tk + 3) l1
  have no55 : ∀ b, fW tx 55 b = true → fW tx 56 b = false := by
    intro b hb
    cases e : fW tx 56 b with
    | false => rfl
    | true => have := fW_two (by decide) (by decide) hb e; omega
  have hv : ∀ (l : List Int) (p : Nat), mis l p < 0 → ∀ t ∈ l, t ≠ -2 := by
    intro l
    induction l with
    | nil => intro p _ t ht; cases ht
    | cons t l ih =>
      intro p h u hu
      rw [mis] at h
      by_cases e : t = -2
      · rw [if_pos e] at h; omega
      · rw [if_neg e] at h
        rcases List.mem_cons.mp hu with e2 | e2
        · rw [e2]; exact e
        · exact ih (p + 1) h u e2
  have xr : x.rs = tyC ns (tx.getD ((pT tx ns 20000 (x.tk + 3)).2 + 1) []) := by
    conv => lhs; rw [hx]
    rfl
  obtain ⟨m, hm⟩ := big_ge 40000 (by decide)
  unfold ja_X13_isSameRow
  rw [show nk_big = (m + 39999) + 1 by omega]
  show ja_X13_isSameRow_b2 (ja_X13_isSameRow_L2 (m + 39999)) 121 ((a + 2 : Nat) : Int) ((x.tk + 2 : Nat) : Int) ((0 : Nat) : Int) S = _
  unfold ja_X13_isSameRow_b2
  rw [w_add (by omega), w_add (by omega), Nat.add_zero, Nat.add_zero, m_cb hM (a + 2) (by omega), bd_some, no55 _ k3, if_pos (show bi false = 0 from rfl), m_cb hM (x.tk + 2) (by omega), bd_some, no55 _ l3, if_pos (show bi false = 0 from rfl), m_sameT hM (by omega) (by omega), bd_some, fW_at k3, fW_at l3, decide_eq_true rfl, if_neg (show ¬ bi true = 0 by decide), lt_eq, w_nat1 (by omega)]
  rw [m_rowL (ns := ns) hM 20000 (a + 3) (x.tk + 3) (m + 39999) (0 + 1) (a + 2) (x.tk + 2) (by omega) (by omega) k1 l1 (hv _ _ hxm) (by rw [← xr]; exact hxr) (by omega) (by omega) (by omega), xr]
theorem m_b100 (hP : P = 122 ∨ P = 168) {S : nk_S} (hM : MW S tx) (hC : rC S tx P ns us) {fl : List (List Int × Nat × Int)} {bl : List jB} (hF : rFl S tx P fl) (hB : rBl S tx P bl) (ho : bl.length ≤ 48) {j a : Nat} (hj : j < ns.length) (hb : bodyAt tx a) (hbad : badB us bl (nB tx ns j a) = false) : ∃ S', mcA (bStep tx ns us j a bl).1 (ja_X13_body_b100 121 P (j : Int) (a : Int) (bi (fW tx 51 a)) S) S' ∧ rF P S S' ∧ rFl S' tx P fl ∧ ((bStep tx ns us j a bl).1 = none → rBl S' tx P (bStep tx ns us j a bl).2) := by
  obtain ⟨k1, k2, k3, k4, k5, k6, k7⟩ := hd_kind (ns := ns) hb
  have hT := hM.2.1
  have h32 := hC.2.1
  have g6 := fW_T k6
  obtain ⟨p1, p2, p3, p4, p5, -⟩ := pT_ok (ns := ns) 20000 (a + 3) k1
  have hP2 : P + 46 ≤ 214 := by omega
  unfold bStep
  rw [hbad]
  unfold ja_X13_body_b100
  rw [hB.1]
  by_cases q1 : 48 ≤ bl.length
  · rw [if_pos q1, if_pos (show (bl.length : Int) = 48 by omega)]
    refine ⟨nk_wi S 121 12 ((a + 1 : Nat) : Int), ⟨?_, by simp only [wi_v, and_self, if_true]⟩, rF_G hP (rG_w (n := bl.length) hP), rFl_G hP (rG_w (n := bl.length) hP) hF, fun h => by cases h⟩
    unfold ja_X13_body_b109
    rw [w_nat1 (by omega)]
    rfl
  rw [if_neg q1, if_neg (show ¬ (bl.length : Int) = 48 by omega), if_neg (by decide), lt_eq]
  have hin : (0 : Int) ≤ ((bl.length * 12 : Nat) : Int) ∧ ((bl.length * 12 : Nat) : Int) < 576 := in_i (N := 576) (by omega)
  -- the parameters begin
  obtain ⟨T, G1, pT0, e1⟩ : ∃ T, rG P bl.length S T ∧ rP T P bl.length (if fW tx 51 a = true then [((4 + 2 * j : Nat) : Int)] else []) ∧ (if bi (fW tx 51 a) = 0 then ja_X13_body_b133 121 P (j : Int) (a : Int) (bi (fW tx 51 a)) (bl.length : Int) 0 S else ja_X13_body_b133 121 P (j : Int) (a : Int) (bi (fW tx 51 a)) (bl.length : Int) 1 S) = ja_X13_body_L159 nk_big 121 P (j : Int) (a : Int) (bi (fW tx 51 a)) (bl.length : Int) (((if fW tx 51 a = true then [((4 + 2 * j : Nat) : Int)] else []) : List Int).length : Int) ((a + 3 : Nat) : Int) T := by
    cases h51 : fW tx 51 a with
    | false =>
      refine ⟨S, rG_rfl, fun k t _ h => (by cases h), ?_⟩
      rw [if_pos (show bi false = 0 from rfl)]
      unfold ja_X13_body_b133
      rw [if_pos (show bi false = 0 from rfl), lt_eq, w_n3 (by omega)]
      rfl
    | true =>
      refine ⟨nk_wi S (P + 9) (bl.length * 12 + 0) (rvT ((4 + 2 * j : Nat) : Int)), rG_9 hP, rP_add (S := S) (P := P) (n := bl.length) (ps := []) (t := ((4 + 2 * j : Nat) : Int)) (fun k t _ h => by cases h), ?_⟩
      rw [if_neg (show ¬ bi true = 0 by decide)]
      unfold ja_X13_body_b133
      have ew : nk_w ((bl.length : Int) * 12) = ((bl.length * 12 : Nat) : Int) := by
        rw [show (bl.length : Int) * 12 = ((bl.length * 12 : Nat) : Int) by omega]
        exact w_n0 (by omega)
      have e8 : nk_w (8 + (j : Int)) = rvT ((4 + 2 * j : Nat) : Int) := by
        rw [show (8 : Int) + (j : Int) = ((8 + j : Nat) : Int) by omega, w_n0 (by omega)]
        unfold rvT
        rw [if_neg (by omega), if_neg (by omega), if_neg (by omega), if_pos (by omega)]
        omega
      rw [if_neg (show ¬ bi true = 0 by decide), ew, if_pos hin, lt_eq, lt_eq, (jcP hP 16 (by decide) : ja_c P 16 = P + 9), Int.toNat_natCast, e8, w_n3 (by omega), Nat.add_zero]
      rfl
  rw [e1]
  have lps : ((if fW tx 51 a = true then [((4 + 2 * j : Nat) : Int)] else []) : List Int).length ≤ 1 := by split <;> simp
  obtain ⟨m, hm⟩ := big_ge 40000 (by decide)
  obtain ⟨U, G2, u2, u3⟩ := m_bdyL hP (n := bl.length) (by omega) (j := (j : Int)) (a := (a : Int)) (me := bi (fW tx 51 a)) 20000 (a + 3) nk_big _ T (MW_G hP G1 hM) (rC_G hP G1 hC) pT0 k1 (by omega) (by omega)
  have GU := rG_trans G1 G2
  rcases u3 with ⟨y1, y2, y3⟩ | ⟨y1, y2, y3⟩
  · rw [if_pos y1]
    refine ⟨U, ⟨y2, ?_⟩, rF_G hP GU, rFl_G hP GU hF, fun h => by cases h⟩
    rw [Int.toNat_of_nonneg y1]
    exact y3
  · rw [if_neg (by omega), y2]
    obtain ⟨V, v1, v2, v3, v4, v5, v6⟩ := m_tail hP (n := bl.length) (by omega) (j := j) (a := a) (MW_G hP GU hM) (rC_G hP GU hC) (by rw [GU.2.1 P (by omega) (by omega) (by omega)]; exact hB.1) hb y3 (by
      show ((if fW tx 51 a = true then [((4 + 2 * j : Nat) : Int)] else []) ++ (pT tx ns 20000 (a + 3)).1).length < 100000
      rw [List.length_append]
      omega)
    have hsel : ((if (nB tx ns j a).rs = -2 then (some ((pT tx ns 20000 (a + 3)).2 + 1), bl) else if (nB tx ns j a).lc < ((nB tx ns j a).ps.length : Int) ∨ 12 < (nB tx ns j a).lc then (some ((pT tx ns 20000 (a + 3)).2 + 2), bl) else (none, bl ++ [nB tx ns j a])) : Option Nat × List jB).1 = if (nB tx ns j a).rs = -2 then some ((pT tx ns 20000 (a + 3)).2 + 1) else if (nB tx ns j a).lc < ((nB tx ns j a).ps.length : Int) ∨ 12 < (nB tx ns j a).lc then some ((pT tx ns 20000 (a + 3)).2 + 2) else none := by
      split
      · rfl
      · split <;> rfl
    refine ⟨V, ?_, rF_trans (rF_G hP GU) ⟨v2, fun b x1 x2 x3 x4 => v3 b x1 (by omega) x3 (by omega), v4, fun i x1 x2 => v5 i x2⟩, ?_, fun h => ?_⟩
    · rw [hsel]
      exact v1
    · have hFU := rFl_G hP GU hF
      refine ⟨by rw [v5 1 (by decide)]; exact hFU.1, fun f x hx => ?_⟩
      rw [v3 (P + 3) (by omega) (by omega) (by omega) (by omega), v3 (P + 4) (by omega) (by omega) (by omega) (by omega), v3 219 (by omega) (by omega) (by omega) (by omega)]
      exact hFU.2 f x hx
    · rw [hsel] at h
      by_cases c1 : (nB tx ns j a).rs = -2
      · rw [if_pos c1] at h; cases h
      rw [if_neg c1] at h ⊢
      by_cases c2 : (nB tx ns j a).lc < ((nB tx ns j a).ps.length : Int) ∨ 12 < (nB tx ns j a).lc
      · rw [if_pos c2] at h; cases h
      rw [if_neg c2]
      obtain ⟨z1, z2, z3, z4⟩ := v6 c1 c2
      have hBU := rBl_G hP GU hB
      refine ⟨by rw [z1, List.length_append]; rfl, fun b x hx => ?_⟩
      rcases fl_case hx with ⟨l1, e⟩ | ⟨l1, e⟩
      · obtain ⟨w1, w2, w3, w4, w5, w6, w7, w8, w9⟩ := hBU.2 b x e
        refine ⟨?_, ?_, ?_, fun k t hk ht => ?_, ?_, ?_, ?_, w8, ?_⟩
        · rw [z3 _ b (by omega) (by omega) (by omega)]; exact w1
        · rw [z3 _ b (by omega) (by omega) (by omega)]; exact w2
        · rw [z3 _ b (by omega) (by omega) (by omega)]; exact w3
        · rw [z4]; exact w4 k t hk ht
        · rw [z3 _ b (by omega) (by omega) (by omega)]; exact w5
        · rw [z3 _ b (by omega) (by omega) (by omega)]; exact w6
        · rw [z3 _ b (by omega) (by omega) (by omega)]; exact w7
        · rw [z3 _ b (by omega) (by omega) (by omega)]; exact w9
      · rw [l1, e]; exact z2
theorem m_body (hP : P = 122 ∨ P = 168) {S : nk_S} (hM : MW S tx) (hC : rC S tx P ns us) (hu : uOk us) {fl : List (List Int × Nat × Int)} {bl : List jB} (hF : rFl S tx P fl) (hB : rBl S tx P bl) (hO : bOk us bl) (hX : bTx tx ns bl) {j a : Nat} (hj : j < ns.length) (hb : bodyAt tx a) : ∃ S', mcA (bStep tx ns us j a bl).1 (ja_X13_body 121 P (j : Int) (a : Int) S) S' ∧ rF P S S' ∧ rFl S' tx P fl ∧ ((bStep tx ns us j a bl).1 = none → rBl S' tx P (bStep tx ns us j a bl).2) := by
  obtain ⟨k1, k2, k3, k4, k5, k6, k7⟩ := hd_kind (ns := ns) hb
  have hT := hM.2.1
  have g6 := fW_T k6
  obtain ⟨p1, p2, p3, p4, p5, -⟩ := pT_ok (ns := ns) 20000 (a + 3) k1
  have ho := hO.1
  obtain ⟨f, t, e1, e2, e3, e4, e5, e6⟩ := MW_get hM (show a + 1 < tx.length by omega)
  have hnm : (nB tx ns j a).nm = tx.getD (a + 1) [] := rfl
  have hwrong : badB us bl (nB tx ns j a) = true → ∃ S', mcA (bStep tx ns us j a bl).1 (ja_X13_body_b109 121 (a : Int) S) S' ∧ rF P S S' ∧ rFl S' tx P fl ∧ ((bStep tx ns us j a bl).1 = none → rBl S' tx P (bStep tx ns us j a bl).2) := by
    intro hbad
    have hst : bStep tx ns us j a bl = (some (a + 1), bl) := by
      unfold bStep
      rw [hbad]
      split
      · rfl
      · rw [if_pos rfl]
    rw [hst]
    refine ⟨nk_wi S 121 12 ((a + 1 : Nat) : Int), ⟨?_, by simp only [wi_v, and_self, if_true]⟩, rF_G hP (rG_w (n := bl.length) hP), rFl_G hP (rG_w (n := bl.length) hP) hF, fun h => by cases h⟩
    unfold ja_X13_body_b109
    rw [w_nat1 (by omega)]
    rfl
  unfold ja_X13_body
  rw [m_mt hM a (by omega), bd_some, w_nat1 (by omega), if_pos (in_i (N := 16002) (by omega)), jc_121_8, jc_121_9, Int.toNat_natCast, e1, e2, m_bodyOf hM hP hC hu hB hO hj (by omega) e4, bd_some, e5]
  rcases bdL_rg (us := us) (c := j) (n := tx.getD (a + 1) []) bl 0 (-1) with h | ⟨k, x, h1, h3, h4⟩
  · rw [h, if_pos (by decide)]
    have hbad : badB us bl (nB tx ns j a) = false := by
      unfold badB
      rw [hnm, show (nB tx ns j a).ow = j from rfl, h, if_pos (by decide)]
    unfold ja_X13_body_b87 ja_X13_body_b88
    rw [if_pos (by decide)]
    exact m_b100 hP hM hC hF hB ho hj hb hbad
  · have hk := at_lt h3
    obtain ⟨x1, x2, x3, x4, x5, x6, x7, x8, x9⟩ := hB.2 k x h3
    obtain ⟨t1, t2, t3, t4, t5, t6⟩ := hX x (List.mem_of_getElem? h3)
    have hbb : badB us bl (nB tx ns j a) = !(mayB x (nB tx ns j a)) := by
      unfold badB
      rw [hnm, show (nB tx ns j a).ow = j from rfl, h1, if_neg (by omega), Int.toNat_natCast, Nat.zero_add, h3]
    have h87 : mayB x (nB tx ns j a) = false → ∃ S', mcA (bStep tx ns us j a bl).1 (ja_X13_body_b87 121 P (j : Int) (a : Int) (bi (fW tx 51 a)) (k : Int) S) S' ∧ rF P S S' ∧ rFl S' tx P fl ∧ ((bStep tx ns us j a bl).1 = none → rBl S' tx P (bStep tx ns us j a bl).2) := by
      intro hm
      unfold ja_X13_body_b87 ja_X13_body_b88
      rw [if_neg (by omega), if_pos rfl]
      exact hwrong (by rw [hbb, hm]; rfl)
    have hin : (0 : Int) ≤ (k : Int) ∧ (k : Int) < 48 := in_i (N := 48) (by omega)
    rw [h1, Nat.zero_add, if_neg (show ¬ (k : Int) < 0 by omega), if_pos hin, (jcP hP 13 (by decide) : ja_c P 13 = P + 6), (jcP hP 14 (by decide) : ja_c P 14 = P + 7), jc_121_15, Int.toNat_natCast, x1, x2, x7]
    by_cases q1 : x.ow = j
    · rw [if_pos (show (x.ow : Int) = (j : Int) by omega)]
      exact h87 (decide_eq_false (fun h => h.1 q1))
    rw [if_neg (show ¬ (x.ow : Int) = (j : Int) by omega)]
    cases h51 : fW tx 51 a with
    | false =>
      rw [if_pos (show bi false = 0 from rfl)]
      rw [h51] at h87
      exact h87 (decide_eq_false (fun h => by
        have h5 : fW tx 51 a = true := h.2.2.1
        rw [h51] at h5; cases h5))
    | true =>
      rw [h51] at h87
      rw [if_neg (show ¬ bi true = 0 by decide)]
      cases hxm : x.me with
      | false =>
        rw [if_pos (show bi false = 0 from rfl)]
        exact h87 (decide_eq_false (fun h => by
          have h5 := h.2.1
          rw [hxm] at h5; cases h5))
      | true =>
        have lt := fW_T (hd_kind (ns := ns) t2).2.2.2.2.2.1
        have xp1 := pT_ok (ns := ns) 20000 (x.tk + 3) (hd_kind (ns := ns) t2).1
        rw [if_neg (show ¬ bi true = 0 by decide), w_n2 (by omega), w_nat1 (by omega), show x.tk + 1 + 1 = x.tk + 2 by omega, m_row hM hb t1 t2 t3 t4, bd_some]
        have hmay : mayB x (nB tx ns j a) = decide ((pT tx ns 20000 (a + 3)).1 = (pT tx ns 20000 (x.tk + 3)).1 ∧ tyC ns (tx.getD ((pT tx ns 20000 (a + 3)).2 + 1) []) = x.rs) := by
          unfold mayB
          refine decide_eq_decide.mpr ?_
          have np : (nB tx ns j a).ps = ((4 + 2 * j : Nat) : Int) :: (pT tx ns 20000 (a + 3)).1 := by
            show (if fW tx 51 a = true then [((4 + 2 * j : Nat) : Int)] else []) ++ (pT tx ns 20000 (a + 3)).1 = _
            rw [h51, if_pos rfl]
            rfl
          have xp : x.ps = ((4 + 2 * x.ow : Nat) : Int) :: (pT tx ns 20000 (x.tk + 3)).1 := by
            conv => lhs; rw [t1]
            show (if fW tx 51 x.tk = true then [((4 + 2 * x.ow : Nat) : Int)] else []) ++ (pT tx ns 20000 (x.tk + 3)).1 = _
            have : fW tx 51 x.tk = true := by
              rw [t1] at hxm
              exact hxm
            rw [this, if_pos rfl]
            rfl
          rw [np, xp]
          constructor
          · intro h
            exact ⟨h.2.2.2.2.2.symm, h.2.2.2.2.1.symm⟩
          · intro h
            exact ⟨q1, hxm, h51, by rw [List.length_cons, List.length_cons, h.1], h.2.symm, h.1.symm⟩
        cases hmm : decide ((pT tx ns 20000 (a + 3)).1 = (pT tx ns 20000 (x.tk + 3)).1 ∧ tyC ns (tx.getD ((pT tx ns 20000 (a + 3)).2 + 1) []) = x.rs) with
        | false =>
          rw [if_pos (show bi false = 0 from rfl)]
          exact h87 (by rw [hmay, hmm])
        | true =>
          rw [if_neg (show ¬ bi true = 0 by decide)]
          unfold ja_X13_body_b88
          rw [if_neg (by omega), if_neg (by decide)]
          have := m_b100 hP hM hC hF hB ho hj hb (by rw [hbb, hmay, hmm]; rfl)
          rw [h51] at this
          exact this
theorem m_field (hP : P = 122 ∨ P = 168) {S : nk_S} (hM : MW S tx) (hC : rC S tx P ns us) (hu : uOk us) {fl : List (List Int × Nat × Int)} {bl : List jB} (hF : rFl S tx P fl) (hB : rBl S tx P bl) (hO : fOk us fl) {j a : Nat} (hj : j < ns.length) (hn : fN tx (a + 1) = true) (ht : fT tx (a + 2) = true) : ∃ S', mcA (fStep tx ns us j a fl).1 (ja_X13_field 121 P (j : Int) (a : Int) S) S' ∧ rF P S S' ∧ rBl S' tx P bl ∧ ((fStep tx ns us j a fl).1 = none → rFl S' tx P (fStep tx ns us j a fl).2) := by
  have hT := hM.2.1
  have h32 := hC.2.1
  have ho := hO.1
  have l2 := fT_T ht
  have hP2 : P + 46 ≤ 214 := by omega
  obtain ⟨f, t, e1, e2, e3, e4, e5, e6⟩ := MW_get hM (show a + 1 < tx.length by omega)
  have hw : ∀ y : Nat, rF P S (nk_wi S 121 12 (y : Int)) ∧ rBl (nk_wi S 121 12 (y : Int)) tx P bl := fun y => ⟨rF_G hP (rG_w (n := bl.length) hP), rBl_G hP (rG_w hP) hB⟩
  have h34 : ja_X13_field_b34 121 (a : Int) S = some (0, nk_wi S 121 12 ((a + 1 : Nat) : Int)) := by
    unfold ja_X13_field_b34
    rw [w_nat1 (by omega)]
    rfl
  unfold ja_X13_field fStep
  rw [hF.1]
  by_cases q1 : 48 ≤ fl.length
  · rw [if_pos (show (fl.length : Int) = 48 by omega), if_pos (Or.inr q1), h34]
    exact ⟨_, ⟨rfl, by simp only [wi_v, and_self, if_true]⟩, (hw (a + 1)).1, (hw (a + 1)).2, fun h => by cases h⟩
  rw [if_neg (show ¬ (fl.length : Int) = 48 by omega), w_nat1 (by omega), if_pos (in_i (N := 16002) (by omega)), jc_121_8, jc_121_9, Int.toNat_natCast, e1, e2, m_fieldOf hM hP hC hu hF hO hj (by omega) e4, bd_some, e5]
  by_cases q2 : 0 ≤ fdL us j (tx.getD (a + 1) []) fl 0
  · rw [if_neg (show ¬ fdL us j (tx.getD (a + 1) []) fl 0 < 0 by omega), if_pos (Or.inl q2), h34]
    exact ⟨_, ⟨rfl, by simp only [wi_v, and_self, if_true]⟩, (hw (a + 1)).1, (hw (a + 1)).2, fun h => by cases h⟩
  rw [if_pos (show fdL us j (tx.getD (a + 1) []) fl 0 < 0 by omega), if_neg (show ¬ (0 ≤ fdL us j (tx.getD (a + 1) []) fl 0 ∨ 48 ≤ fl.length) from fun h => h.elim q2 q1), w_n2 (by omega), m_typeOf hM hP hC (by omega), bd_some, ty_rv ht h32]
  have hrg := tyC_rg ns (tx.getD (a + 2) [])
  have hm1 := ty_m1 (ns := ns) ht
  have hneg := rv_neg hrg
  by_cases q3 : tyC ns (tx.getD (a + 2) []) = -2
  · rw [if_pos q3, if_neg (show ¬ 0 ≤ rvT (tyC ns (tx.getD (a + 2) [])) by have := hneg.mp (Or.inl q3); omega)]
    exact ⟨nk_wi S 121 12 ((a + 2 : Nat) : Int), ⟨rfl, by simp only [wi_v, and_self, if_true]⟩, (hw (a + 2)).1, (hw (a + 2)).2, fun h => by cases h⟩
  rw [if_neg q3, if_pos (show 0 ≤ rvT (tyC ns (tx.getD (a + 2) [])) by
    by_cases e : 0 ≤ rvT (tyC ns (tx.getD (a + 2) []))
    · exact e
    · have := hneg.mpr (by omega); omega)]
  have hin : (0 : Int) ≤ (fl.length : Int) ∧ (fl.length : Int) < 48 := in_i (N := 48) (by omega)
  rw [hF.1, if_pos hin, lt_eq, jc_121_14, Int.toNat_natCast]
  rw [show (nk_wi S 219 fl.length ((a + 1 : Nat) : Int)).1 P 1 = (fl.length : Int) by rw [wi_n (by omega)]; exact hF.1, if_pos hin, lt_eq, (jcP hP 10 (by decide) : ja_c P 10 = P + 3), Int.toNat_natCast]
  rw [show (nk_wi (nk_wi S 219 fl.length ((a + 1 : Nat) : Int)) (P + 3) fl.length (j : Int)).1 P 1 = (fl.length : Int) by rw [wi_n (by omega), wi_n (by omega)]; exact hF.1, if_pos hin, lt_eq, (jcP hP 11 (by decide) : ja_c P 11 = P + 4), Int.toNat_natCast, lt_eq]
  obtain ⟨T, hTT⟩ : ∃ T, T = nk_wi (nk_wi (nk_wi S 219 fl.length ((a + 1 : Nat) : Int)) (P + 3) fl.length (j : Int)) (P + 4) fl.length (rvT (tyC ns (tx.getD (a + 2) []))) := ⟨_, rfl⟩
  rw [← hTT]
  have t1 : T.1 P 1 = (fl.length : Int) := by rw [hTT, wi_n (by omega), wi_n (by omega), wi_n (by omega)]; exact hF.1
  rw [t1, w_nat1 (by omega)]
  obtain ⟨U, hU⟩ : ∃ U, U = nk_wi T P 1 ((fl.length + 1 : Nat) : Int) := ⟨_, rfl⟩
  rw [← hU]
  have un : ∀ b, b ≠ 219 → b ≠ P → b ≠ P + 3 → b ≠ P + 4 → U.1 b = S.1 b := fun b x1 x2 x3 x4 => by rw [hU, wi_n x2, hTT, wi_n x4, wi_n x3, wi_n x1]
  have uP : ∀ i, i ≠ 1 → U.1 P i = S.1 P i := fun i hi => by
    rw [hU]
    simp only [wi_v, hi, and_false, if_false]
    rw [hTT, wi_n (by omega), wi_n (by omega), wi_n (by omega)]
  refine ⟨U, rfl, ⟨by rw [hU, hTT]; rfl, fun b x1 x2 x3 x4 => un b (by omega) x3 (by omega) (by omega), fun i _ => by rw [un 121 (by omega) (by omega) (by omega) (by omega)], fun i x1 _ => uP i x1⟩, ⟨by rw [uP 2 (by decide)]; exact hB.1, fun b x hx => ?_⟩, fun _ => ⟨by rw [hU, List.length_append]; simp only [wi_v, and_self, if_true]; rfl, fun g x hx => ?_⟩⟩
  · have := hB.2 b x hx
    unfold rB1 at this ⊢
    rw [un (P + 6) (by omega) (by omega) (by omega) (by omega), un (P + 7) (by omega) (by omega) (by omega) (by omega), un (P + 8) (by omega) (by omega) (by omega) (by omega), un (P + 9) (by omega) (by omega) (by omega) (by omega), un (P + 10) (by omega) (by omega) (by omega) (by omega), un (P + 11) (by omega) (by omega) (by omega) (by omega), un 220 (by omega) (by omega) (by omega) (by omega), un 221 (by omega) (by omega) (by omega) (by omega)]
    exact this
  · have r3 : ∀ i, U.1 (P + 3) i = if i = fl.length then (j : Int) else S.1 (P + 3) i := fun i => by
      rw [hU, wi_n (by omega), hTT, wi_n (by omega)]; simp only [wi_v, true_and]; rw [if_neg (show ¬ (P + 3 = 219 ∧ i = fl.length) by omega)]
    have r4 : ∀ i, U.1 (P + 4) i = if i = fl.length then rvT (tyC ns (tx.getD (a + 2) [])) else S.1 (P + 4) i := fun i => by
      rw [hU, wi_n (by omega), hTT]; simp only [wi_v, true_and]; rw [if_neg (show ¬ (P + 4 = P + 3 ∧ i = fl.length) by omega), if_neg (show ¬ (P + 4 = 219 ∧ i = fl.length) by omega)]
    have r9 : ∀ i, U.1 219 i = if i = fl.length then ((a + 1 : Nat) : Int) else S.1 219 i := fun i => by
      rw [hU, wi_n (by omega), hTT, wi_n (by omega), wi_n (by omega)]; simp only [wi_v, true_and]
    rw [r3, r4, r9]
    rcases fl_case hx with ⟨l1, e⟩ | ⟨l1, e⟩
    · rw [if_neg (by omega), if_neg (by omega), if_neg (by omega)]
      exact hF.2 g x e
    · rw [if_pos l1, if_pos l1, if_pos l1, e]
      exact ⟨rfl, rfl, a + 1, rfl, by rw [List.getD_eq_getElem?_getD, List.getElem?_eq_getElem (by omega)]; rfl⟩
end MBE
