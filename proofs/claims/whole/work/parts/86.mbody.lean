/-! Members: the reference's bodies. -/
def rG (P n : Nat) (S S' : nk_S) : Prop := S'.2 = S.2 ∧ (∀ b, b ≠ 121 → ¬ (220 ≤ b ∧ b ≤ 221) → ¬ (P + 6 ≤ b ∧ b ≤ P + 11) → S'.1 b = S.1 b) ∧ (∀ i, i ≠ 12 → S'.1 121 i = S.1 121 i) ∧ (∀ b i, b ≠ 121 → b ≠ P + 9 → i ≠ n → S'.1 b i = S.1 b i) ∧ ∀ i, i < n * 12 → S'.1 (P + 9) i = S.1 (P + 9) i
theorem rG_trans {P n : Nat} {S1 S2 S3 : nk_S} (h : rG P n S1 S2) (k : rG P n S2 S3) : rG P n S1 S3 := ⟨k.1.trans h.1, fun b x y z => (k.2.1 b x y z).trans (h.2.1 b x y z), fun i x => (k.2.2.1 i x).trans (h.2.2.1 i x), fun b i x y z => (k.2.2.2.1 b i x y z).trans (h.2.2.2.1 b i x y z), fun i x => (k.2.2.2.2 i x).trans (h.2.2.2.2 i x)⟩
theorem rG_rfl {P n : Nat} {S : nk_S} : rG P n S S := ⟨rfl, fun _ _ _ _ => rfl, fun _ _ => rfl, fun _ _ _ _ _ => rfl, fun _ _ => rfl⟩
theorem rG_n {P n : Nat} (hP : P = 122 ∨ P = 168) {S : nk_S} {b : Nat} {x : Int} (hb : b = 220 ∨ b = 221 ∨ (P + 6 ≤ b ∧ b ≤ P + 11 ∧ b ≠ P + 9)) : rG P n S (nk_wi S b n x) := by
  have hP2 : P + 46 ≤ 214 := by omega
  refine ⟨rfl, fun c x y z => wi_n (by omega), fun i _ => by rw [wi_n (by omega)], fun c i _ _ h => by simp only [wi_v, h, and_false, if_false], fun i _ => by rw [wi_n (by omega)]⟩
theorem rG_9 {P n k : Nat} (hP : P = 122 ∨ P = 168) {S : nk_S} {x : Int} : rG P n S (nk_wi S (P + 9) (n * 12 + k) x) := by
  have hP2 : P + 46 ≤ 214 := by omega
  refine ⟨rfl, fun c x y z => wi_n (by omega), fun i _ => by rw [wi_n (by omega)], fun c i _ h _ => by rw [wi_n h], fun i h => by simp only [wi_v, true_and]; rw [if_neg (by omega)]⟩
theorem rG_w {P n : Nat} (hP : P = 122 ∨ P = 168) {S : nk_S} {x : Int} : rG P n S (nk_wi S 121 12 x) := ⟨rfl, fun c h _ _ => wi_n h, fun i h => by simp only [wi_v, h, and_false, if_false], fun c i h _ _ => by rw [wi_n h], fun i _ => by rw [wi_n (by omega)]⟩
section MBD
variable {tx : List (List Int)} {P : Nat} {ns : List (List Int)} {us : List Int}
theorem MW_G {n : Nat} (hP : P = 122 ∨ P = 168) {S S' : nk_S} (h : rG P n S S') (hM : MW S tx) : MW S' tx := MW_c (h.2.2.1 10 (by decide)) (h.2.1 216 (by omega) (by omega) (by omega)) (h.2.1 217 (by omega) (by omega) (by omega)) (h.2.1 215 (by omega) (by omega) (by omega)) hM
theorem rC_c {S S' : nk_S} (h1 : S'.1 P 0 = S.1 P 0) (h2 : S'.1 (P + 1) = S.1 (P + 1)) (h3 : S'.1 218 = S.1 218) (h : rC S tx P ns us) : rC S' tx P ns us := by
  obtain ⟨c1, c2, c3, c4, c5, c6⟩ := h
  exact ⟨h1.trans c1, c2, c3, by rw [h2]; exact c4, c5, by rw [h3]; exact c6⟩
theorem rC_G {n : Nat} (hP : P = 122 ∨ P = 168) {S S' : nk_S} (h : rG P n S S') (hC : rC S tx P ns us) : rC S' tx P ns us := rC_c (by rw [h.2.1 P (by omega) (by omega) (by omega)]) (h.2.1 (P + 1) (by omega) (by omega) (by omega)) (h.2.1 218 (by omega) (by omega) (by omega)) hC
theorem rFl_G {n : Nat} (hP : P = 122 ∨ P = 168) {S S' : nk_S} (h : rG P n S S') {fl : List (List Int × Nat × Int)} (hF : rFl S tx P fl) : rFl S' tx P fl := by
  refine ⟨by rw [h.2.1 P (by omega) (by omega) (by omega)]; exact hF.1, fun f x hx => ?_⟩
  rw [h.2.1 (P + 3) (by omega) (by omega) (by omega), h.2.1 (P + 4) (by omega) (by omega) (by omega), h.2.1 219 (by omega) (by omega) (by omega)]
  exact hF.2 f x hx
theorem rB1_G {n b : Nat} (hP : P = 122 ∨ P = 168) {S S' : nk_S} (h : rG P n S S') (hb : b < n) {x : jB} (hx : rB1 S tx P b x) : rB1 S' tx P b x := by
  obtain ⟨x1, x2, x3, x4, x5, x6, x7, x8, x9⟩ := hx
  have k := h.2.2.2.1
  refine ⟨?_, ?_, ?_, fun j t hj ht => ?_, ?_, ?_, ?_, x8, ?_⟩
  · rw [k _ b (by omega) (by omega) (by omega)]; exact x1
  · rw [k _ b (by omega) (by omega) (by omega)]; exact x2
  · rw [k _ b (by omega) (by omega) (by omega)]; exact x3
  · rw [h.2.2.2.2 _ (by omega)]; exact x4 j t hj ht
  · rw [k _ b (by omega) (by omega) (by omega)]; exact x5
  · rw [k _ b (by omega) (by omega) (by omega)]; exact x6
  · rw [k _ b (by omega) (by omega) (by omega)]; exact x7
  · rw [k _ b (by omega) (by omega) (by omega)]; exact x9
theorem rBl_G (hP : P = 122 ∨ P = 168) {S S' : nk_S} {bl : List jB} (h : rG P bl.length S S') (hB : rBl S tx P bl) : rBl S' tx P bl := ⟨by rw [h.2.1 P (by omega) (by omega) (by omega)]; exact hB.1, fun b x hx => rB1_G hP h (at_lt hx) (hB.2 b x hx)⟩
/-- the parameters of the body that is being added -/
def rP (S : nk_S) (P n : Nat) (ps : List Int) : Prop := ∀ (k : Nat) (t : Int), k < 12 → ps[k]? = some t → S.1 (P + 9) (n * 12 + k) = rvT t
theorem rP_add {S : nk_S} {n : Nat} {ps : List Int} {t : Int} (h : rP S P n ps) : rP (nk_wi S (P + 9) (n * 12 + ps.length) (rvT t)) P n (ps ++ [t]) := by
  intro k u hk hu
  simp only [wi_v, true_and]
  rcases fl_case hu with ⟨l1, e⟩ | ⟨l1, e⟩
  · rw [if_neg (by omega)]; exact h k u hk e
  · rw [if_pos (by omega), e]
theorem rP_no {S : nk_S} {n : Nat} {ps : List Int} {t : Int} (h : rP S P n ps) (hl : 12 ≤ ps.length) : rP S P n (ps ++ [t]) := by
  intro k u hk hu
  rcases fl_case hu with ⟨l1, e⟩ | ⟨l1, e⟩
  · exact h k u hk e
  · omega
theorem rv_neg {t : Int} (h : t = -2 ∨ t = -1 ∨ 1 ≤ t) : (t = -2 ∨ t = -1) ↔ rvT t < 0 := by
  unfold rvT
  constructor
  · rintro (e | e) <;> rw [e] <;> decide
  · intro h2
    by_cases e : t < 0
    · omega
    · exfalso
      rw [if_neg (show ¬ t < 0 by omega)] at h2
      split at h2
      · omega
      · split at h2
        · omega
        · split at h2 <;> omega
theorem tyC_rg (ns : List (List Int)) (l : List Int) : tyC ns l = -2 ∨ tyC ns l = -1 ∨ 1 ≤ tyC ns l := by
  by_cases h : tyC ns l = -2
  · exact Or.inl h
  · rcases tyC_kind h with ⟨a1, a2⟩ | ⟨a1, a2⟩ | ⟨a1, a2⟩ | ⟨j, a1, a2, a3⟩ | ⟨j, a1, a2⟩ <;> omega
theorem fx53_nT : isT (fx.getD 53 []) = false := by
  cases h : isT (fx.getD 53 []) with
  | false => rfl
  | true =>
    have := (isT_iff _).mp h
    revert this
    decide +kernel
theorem ty_m1 {l : List Int} (h : isT l = true) : tyC ns l ≠ -1 := by
  intro e
  have h2 : tyC ns l ≠ -2 := by omega
  rcases tyC_kind h2 with ⟨a1, a2⟩ | ⟨a1, a2⟩ | ⟨a1, a2⟩ | ⟨j, a1, a2, a3⟩ | ⟨j, a1, a2⟩
  · omega
  · omega
  · rw [a2, fx53_nT] at h; cases h
  · omega
  · omega
/-- the tail of the reference's body, behind the closing bracket -/
noncomputable def mTail (P : Nat) (j a me n k e : Int) (S : nk_S) : Option (Int × nk_S) :=
  nk_bd (ja_X13_is 121 e 25 S) fun r7 S8 => if r7 = 0 then nk_bd (ja_X13_typeOf 121 P e S8) fun r10 S11 => ja_X13_body_b253 121 P j a me n k e (ja_c P 17) n r10 S11 else ja_X13_body_b253 121 P j a me n k e (ja_c P 17) n (-1) S8
theorem m_bdyL (hP : P = 122 ∨ P = 168) {n : Nat} (h48 : n < 48) {j a me : Int} : ∀ (d p m : Nat) (ps : List Int) (S : nk_S), MW S tx → rC S tx P ns us → rP S P n ps → (fTypes tx d p).1 = true → ps.length ≤ p → tx.length < p + m → ∃ S', rG P n S S' ∧ (∀ b, b ≠ 121 → b ≠ P + 9 → S'.1 b = S.1 b) ∧ ((0 ≤ mis (pT tx ns d p).1 p ∧ ja_X13_body_L159 m 121 P j a me (n : Int) (ps.length : Int) (p : Int) S = some (0, S') ∧ S'.1 121 12 = mis (pT tx ns d p).1 p) ∨ (mis (pT tx ns d p).1 p < 0 ∧ ja_X13_body_L159 m 121 P j a me (n : Int) (ps.length : Int) (p : Int) S = mTail P j a me (n : Int) ((ps ++ (pT tx ns d p).1).length : Int) (((pT tx ns d p).2 + 1 : Nat) : Int) S' ∧ rP S' P n (ps ++ (pT tx ns d p).1))) := by
  intro d
  induction d with
  | zero => intro p m ps S _ _ _ h; cases h
  | succ d ih =>
    intro p m ps S hM hC hp h hps hm
    have hT := hM.2.1
    have h32 := hC.2.1
    have hft := fTypes_ok h
    obtain ⟨m, rfl⟩ : ∃ q, m = q + 1 := ⟨m - 1, by omega⟩
    have hl : p < tx.length := by omega
    rw [fTypes] at h
    rw [pT]
    have hstep : ja_X13_body_L159 (m + 1) 121 P j a me (n : Int) (ps.length : Int) (p : Int) S = ja_X13_body_b159 (ja_X13_body_L159 m) 121 P j a me (n : Int) (ps.length : Int) (p : Int) S := rfl
    unfold ja_X13_body_b159 at hstep
    rw [m_cb hM p (by omega), bd_some] at hstep
    cases h56 : fW tx 56 p with
    | true =>
      simp only [if_true]
      rw [h56, if_neg (show ¬ bi true = 0 by decide), lt_eq, w_nat1 (by omega)] at hstep
      refine ⟨S, rG_rfl, fun _ _ _ => rfl, Or.inr ⟨by show (-1 : Int) < 0; decide, ?_, by rw [List.append_nil]; exact hp⟩⟩
      rw [List.append_nil]
      exact hstep
    | false =>
      rw [h56] at h hstep
      simp only [Bool.false_eq_true, if_false] at h ⊢
      obtain ⟨g1, g2, g3⟩ := sq_ok h
      obtain ⟨t1, t2⟩ := tk_ok g1
      rw [t2] at g2
      obtain ⟨t, ht⟩ : ∃ t, t = tyC ns (tx.getD p []) := ⟨_, rfl⟩
      rw [if_pos (show bi false = 0 from rfl), m_typeOf hM hP hC hl, bd_some, ty_rv t1 h32, ← ht] at hstep
      rw [← ht]
      have hrg := tyC_rg ns (tx.getD p [])
      have hm1 := ty_m1 (ns := ns) t1
      rw [← ht] at hrg hm1
      have hneg := rv_neg hrg
      by_cases q : t = -2
      · rw [mis, if_pos q, if_neg (show ¬ 0 ≤ rvT t by have := hneg.mp (Or.inl q); omega)] at *
        refine ⟨nk_wi S 121 12 (p : Int), rG_w hP, fun b x _ => wi_n x, Or.inl ⟨by omega, ?_, by simp only [wi_v, and_self, if_true]⟩⟩
        rw [hstep]
        rfl
      · rw [if_pos (show 0 ≤ rvT t by
          by_cases e : 0 ≤ rvT t
          · exact e
          · have := hneg.mpr (by omega); omega)] at hstep
        rw [mis, if_neg q]
        by_cases q12 : 12 ≤ ps.length
        · rw [if_pos (show (12 : Int) ≤ (ps.length : Int) by omega), lt_eq, lt_eq, w_nat1 (by omega), w_nat1 (by omega)] at hstep
          obtain ⟨S', i1, i2, i3⟩ := ih (p + 1) m (ps ++ [t]) S hM hC (rP_no hp q12) g2 (by rw [List.length_append, List.length_cons, List.length_nil]; omega) (by omega)
          rw [List.append_assoc, List.length_append (as := ps) (bs := [t])] at i3
          refine ⟨S', i1, i2, ?_⟩
          rw [hstep]
          exact i3
        · have hin : (0 : Int) ≤ ((n * 12 + ps.length : Nat) : Int) ∧ ((n * 12 + ps.length : Nat) : Int) < 576 := in_i (N := 576) (by omega)
          rw [if_neg (show ¬ (12 : Int) ≤ (ps.length : Int) by omega), w_12 h48 (by omega), if_pos hin, lt_eq, lt_eq, lt_eq, (jcP hP 16 (by decide) : ja_c P 16 = P + 9), Int.toNat_natCast, w_nat1 (by omega), w_nat1 (by omega)] at hstep
          have G9 : rG P n S (nk_wi S (P + 9) (n * 12 + ps.length) (rvT t)) := rG_9 hP
          obtain ⟨S', i1, i2, i3⟩ := ih (p + 1) m (ps ++ [t]) (nk_wi S (P + 9) (n * 12 + ps.length) (rvT t)) (MW_G hP G9 hM) (rC_G hP G9 hC) (rP_add hp) g2 (by rw [List.length_append, List.length_cons, List.length_nil]; omega) (by omega)
          rw [List.append_assoc, List.length_append (as := ps) (bs := [t])] at i3
          refine ⟨S', rG_trans G9 i1, fun b x y => by rw [i2 b x y, wi_n y], ?_⟩
          rw [hstep]
          exact i3
/-- the tail -/
theorem m_tail (hP : P = 122 ∨ P = 168) {n : Nat} (h48 : n < 48) {j a : Nat} {S : nk_S} (hM : MW S tx) (hC : rC S tx P ns us) (hn : S.1 P 2 = (n : Int)) (hb : bodyAt tx a) (hps : rP S P n (nB tx ns j a).ps) (hk : (nB tx ns j a).ps.length < 100000) : ∃ S', mcA (if (nB tx ns j a).rs = -2 then some ((pT tx ns 20000 (a + 3)).2 + 1) else if (nB tx ns j a).lc < ((nB tx ns j a).ps.length : Int) ∨ 12 < (nB tx ns j a).lc then some ((pT tx ns 20000 (a + 3)).2 + 2) else none) (mTail P (j : Int) (a : Int) (bi (fW tx 51 a)) (n : Int) ((nB tx ns j a).ps.length : Int) (((pT tx ns 20000 (a + 3)).2 + 1 : Nat) : Int) S) S' ∧ S'.2 = S.2 ∧ (∀ b, b ≠ 121 → ¬ (220 ≤ b ∧ b ≤ 221) → b ≠ P → ¬ (P + 6 ≤ b ∧ b ≤ P + 11) → S'.1 b = S.1 b) ∧ (∀ i, i ≠ 12 → S'.1 121 i = S.1 121 i) ∧ (∀ i, i ≠ 2 → S'.1 P i = S.1 P i) ∧ ((nB tx ns j a).rs ≠ -2 → ¬ ((nB tx ns j a).lc < ((nB tx ns j a).ps.length : Int) ∨ 12 < (nB tx ns j a).lc) → S'.1 P 2 = ((n + 1 : Nat) : Int) ∧ rB1 S' tx P n (nB tx ns j a) ∧ (∀ b i, b ≠ 121 → b ≠ P → i ≠ n → S'.1 b i = S.1 b i) ∧ S'.1 (P + 9) = S.1 (P + 9)) := by
  obtain ⟨k1, k2, k3, k4, k5, k6, k7⟩ := hd_kind (ns := ns) hb
  obtain ⟨p1, p2, p3, p4, p5, p6, p7⟩ := pT_ok (ns := ns) 20000 (a + 3) k1
  have hT := hM.2.1
  have h32 := hC.2.1
  have l6 := fW_T k6
  have hP2 : P + 46 ≤ 214 := by omega
  have hPx : 121 ≠ P ∧ P ≠ 121 ∧ ¬ (220 ≤ P ∧ P ≤ 221) ∧ ¬ (P + 6 ≤ P ∧ P ≤ P + 11) := by omega
  obtain ⟨e, he⟩ : ∃ e, e = (pT tx ns 20000 (a + 3)).2 := ⟨_, rfl⟩
  obtain ⟨x, hx⟩ : ∃ x, x = nB tx ns j a := ⟨_, rfl⟩
  have xr : x.rs = tyC ns (tx.getD (e + 1) []) := by rw [hx, he]; rfl
  have xl : x.lc = nval (tx.getD (e + 2) []) := by rw [hx, he]; rfl
  have xo : x.op = e + 3 := by rw [hx, he]; rfl
  have xt : x.tk = a := by rw [hx]; rfl
  have xm : x.me = fW tx 51 a := by rw [hx]; rfl
  have xw : x.ow = j := by rw [hx]; rfl
  have xn : x.nm = tx.getD (a + 1) [] := by rw [hx]; rfl
  rw [← he] at k4 k5 k6 p3 l6 ⊢
  rw [← hx] at hps hk ⊢
  have hin : (0 : Int) ≤ (n : Int) ∧ (n : Int) < 48 := in_i (N := 48) (by omega)
  obtain ⟨A, hA⟩ : ∃ A, A = nk_wi S (P + 10) n (rvT x.rs) := ⟨_, rfl⟩
  have GA : rG P n S A := by rw [hA]; exact rG_n hP (by omega)
  have MA := MW_G hP GA hM
  have e1 : mTail P (j : Int) (a : Int) (bi (fW tx 51 a)) (n : Int) (x.ps.length : Int) ((e + 1 : Nat) : Int) S = if x.rs = -2 then some (0, nk_wi A 121 12 ((e + 1 : Nat) : Int)) else ja_X13_body_b282 121 P (j : Int) (a : Int) (bi (fW tx 51 a)) (n : Int) (x.ps.length : Int) ((e + 1 : Nat) : Int) A := by
    unfold mTail
    rw [m_nn hM (e + 1) (by omega), bd_some, (jcP hP 17 (by decide) : ja_c P 17 = P + 10)]
    have hA10 : A.1 (P + 10) n = rvT x.rs := by rw [hA]; simp only [wi_v, and_self, if_true]
    cases h53 : fW tx 53 (e + 1) with
    | true =>
      have er : x.rs = -1 := by
        rw [xr, fW_at h53]
        unfold tyC
        rw [if_neg (by decide +kernel), if_neg (by decide +kernel), if_pos rfl]
      rw [if_neg (show ¬ bi true = 0 by decide)]
      unfold ja_X13_body_b253
      rw [if_pos hin, lt_eq, Int.toNat_natCast, show (-1 : Int) = rvT x.rs by rw [er]; rfl, ← hA, m_nn MA (e + 1) (by omega), h53, bd_some, if_neg (show ¬ bi true = 0 by decide), if_neg (by omega)]
    | false =>
      have k4' : fT tx (e + 1) = true := by
        rcases k4 with h | h
        · rw [h53] at h; cases h
        · exact h
      rw [if_pos (show bi false = 0 from rfl), m_typeOf hM hP hC (by omega), bd_some, ty_rv k4' h32, ← xr]
      unfold ja_X13_body_b253
      rw [if_pos hin, lt_eq, Int.toNat_natCast, ← hA, m_nn MA (e + 1) (by omega), h53, bd_some, if_pos (show bi false = 0 from rfl), if_pos hin, (jcP hP 17 (by decide) : ja_c P 17 = P + 10), hA10]
      have hrg := tyC_rg ns (tx.getD (e + 1) [])
      have hm1 := ty_m1 (ns := ns) k4'
      rw [← xr] at hrg hm1
      have hneg := rv_neg hrg
      by_cases q : x.rs = -2
      · rw [if_pos q, if_neg (show ¬ 0 ≤ rvT x.rs by have := hneg.mp (Or.inl q); omega)]
        rfl
      · rw [if_neg q, if_pos (show 0 ≤ rvT x.rs by
          by_cases e : 0 ≤ rvT x.rs
          · exact e
          · have := hneg.mpr (by omega); omega)]
  rw [e1]
  by_cases q : x.rs = -2
  · rw [if_pos q, if_pos q]
    refine ⟨_, ⟨rfl, by simp only [wi_v, and_self, if_true]⟩, by rw [hA]; rfl, fun b y1 y2 y3 y4 => by rw [wi_n y1, GA.2.1 b y1 y2 y4], fun i hi => ?_, fun i _ => by rw [wi_n (by omega), GA.2.1 P (by omega) (by omega) (by omega)], fun h => absurd q h⟩
    simp only [wi_v, hi, and_false, if_false]
    exact GA.2.2.1 i hi
  · rw [if_neg q, if_neg q]
    obtain ⟨B, hB⟩ : ∃ B, B = nk_wi A 221 n ((e + 1 : Nat) : Int) := ⟨_, rfl⟩
    have GB : rG P n S B := by rw [hB]; exact rG_trans GA (rG_n hP (by omega))
    have MB := MW_G hP GB hM
    have hnum := k5
    unfold fU isNum at hnum
    have hnum := of_decide_eq_true hnum
    obtain ⟨n1, n2, n3⟩ := m_number MB (i := e + 2) (by omega) hnum.2.1 hnum.2.2.1
    rw [← xl] at n1
    unfold ja_X13_body_b282
    rw [if_pos hin, lt_eq, jc_121_16, Int.toNat_natCast, ← hB, w_nat1 (by omega), show e + 1 + 1 = e + 2 by omega, n1, bd_some]
    have h319 : ja_X13_body_b319 121 ((e + 1 : Nat) : Int) B = some (0, nk_wi B 121 12 ((e + 2 : Nat) : Int)) := by
      unfold ja_X13_body_b319
      rw [w_nat1 (by omega), show e + 1 + 1 = e + 2 by omega]
      rfl
    have hbad : x.lc < (x.ps.length : Int) ∨ 12 < x.lc → ∃ S', mcA (some (e + 2)) (some (0, nk_wi B 121 12 ((e + 2 : Nat) : Int))) S' ∧ S'.2 = S.2 ∧ (∀ b, b ≠ 121 → ¬ (220 ≤ b ∧ b ≤ 221) → b ≠ P → ¬ (P + 6 ≤ b ∧ b ≤ P + 11) → S'.1 b = S.1 b) ∧ (∀ i, i ≠ 12 → S'.1 121 i = S.1 121 i) ∧ (∀ i, i ≠ 2 → S'.1 P i = S.1 P i) ∧ (x.rs ≠ -2 → ¬ (x.lc < (x.ps.length : Int) ∨ 12 < x.lc) → S'.1 P 2 = ((n + 1 : Nat) : Int) ∧ rB1 S' tx P n x ∧ (∀ b i, b ≠ 121 → b ≠ P → i ≠ n → S'.1 b i = S.1 b i) ∧ S'.1 (P + 9) = S.1 (P + 9)) := by
      intro hc
      refine ⟨_, ⟨rfl, by simp only [wi_v, and_self, if_true]⟩, GB.1, fun b y1 y2 y3 y4 => by rw [wi_n y1, GB.2.1 b y1 y2 y4], fun i hi => ?_, fun i _ => by rw [wi_n (by omega), GB.2.1 P (by omega) (by omega) (by omega)], fun _ h => absurd hc h⟩
      simp only [wi_v, hi, and_false, if_false]
      exact GB.2.2.1 i hi
    by_cases q1 : x.lc < (x.ps.length : Int)
    · rw [if_pos q1, h319, if_pos (Or.inl q1)]
      exact hbad (Or.inl q1)
    · rw [if_neg q1]
      by_cases q2 : x.lc ≤ 12
      · rw [if_pos q2, if_neg (by omega), lt_eq, lt_eq, if_pos (show bi (fW tx 51 a) = 0 ∨ bi (fW tx 51 a) = 1 by cases fW tx 51 a <;> decide), lt_eq, lt_eq, lt_eq, lt_eq, jc_121_15, (jcP hP 13 (by decide) : ja_c P 13 = P + 6), (jcP hP 14 (by decide) : ja_c P 14 = P + 7), (jcP hP 15 (by decide) : ja_c P 15 = P + 8), (jcP hP 18 (by decide) : ja_c P 18 = P + 11), w_nat1 (by omega), nk_w_id (z := x.lc) (by omega) (by omega)]
        obtain ⟨D, hD⟩ : ∃ D, D = nk_wi (nk_wi (nk_wi (nk_wi (nk_wi B 220 n ((a + 1 : Nat) : Int)) (P + 6) n (j : Int)) (P + 7) n (bi (fW tx 51 a))) (P + 8) n (x.ps.length : Int)) (P + 11) n x.lc := ⟨_, rfl⟩
        rw [← hD]
        have GD : rG P n S D := by
          rw [hD]
          exact rG_trans GB (rG_trans (rG_n hP (by omega)) (rG_trans (rG_n hP (by omega)) (rG_trans (rG_n hP (by omega)) (rG_trans (rG_n hP (by omega)) (rG_n hP (by omega))))))
        have d2 : D.1 P 2 = (n : Int) := by rw [GD.2.1 P (by omega) (by omega) (by omega)]; exact hn
        rw [d2, w_nat1 (by omega)]
        obtain ⟨E, hE⟩ : ∃ E, E = nk_wi D P 2 ((n + 1 : Nat) : Int) := ⟨_, rfl⟩
        rw [← hE]
        have en : ∀ b, b ≠ P → E.1 b = D.1 b := fun b hb => by rw [hE]; exact wi_n hb
        have dB : ∀ b, b ≠ 220 → b ≠ P + 6 → b ≠ P + 7 → b ≠ P + 8 → b ≠ P + 11 → D.1 b = B.1 b := fun b y1 y2 y3 y4 y5 => by rw [hD, wi_n y5, wi_n y4, wi_n y3, wi_n y2, wi_n y1]
        have e9 : E.1 (P + 9) = S.1 (P + 9) := by rw [en _ (by omega), dB _ (by omega) (by omega) (by omega) (by omega) (by omega), hB, wi_n (by omega), hA, wi_n (by omega)]
        refine ⟨E, rfl, by rw [hE]; exact GD.1, fun b y1 y2 y3 y4 => by rw [en b y3, GD.2.1 b y1 y2 y4], fun i hi => by rw [en 121 hPx.1]; exact GD.2.2.1 i hi, fun i hi => ?_, fun _ _ => ⟨by rw [hE]; simp only [wi_v, and_self, if_true], ⟨?_, ?_, ?_, fun k t hk ht => ?_, ?_, ?_, ?_, ?_, ?_⟩, fun b i y1 y2 y3 => ?_, e9⟩⟩
        · rw [hE]; simp only [wi_v, hi, and_false, if_false]; rw [GD.2.1 P hPx.2.1 hPx.2.2.1 hPx.2.2.2]
        · rw [en _ (by omega), hD, wi_n (by omega), wi_n (by omega), wi_n (by omega), xw]; simp only [wi_v, and_self, if_true]
        · rw [en _ (by omega), hD, wi_n (by omega), wi_n (by omega), xm]; simp only [wi_v, and_self, if_true]
        · rw [en _ (by omega), hD, wi_n (by omega)]; simp only [wi_v, and_self, if_true]
        · rw [e9]; exact hps k t hk ht
        · rw [en _ (by omega), dB _ (by omega) (by omega) (by omega) (by omega) (by omega), hB, wi_n (by omega), hA]; simp only [wi_v, and_self, if_true]
        · rw [en _ (by omega), hD]; simp only [wi_v, and_self, if_true]
        · rw [en _ (by omega), hD, wi_n (by omega), wi_n (by omega), wi_n (by omega), wi_n (by omega), xt]; simp only [wi_v, and_self, if_true]
        · rw [xt, xn, List.getD_eq_getElem?_getD, List.getElem?_eq_getElem (by omega)]; rfl
        · rw [en _ (by omega), dB _ (by omega) (by omega) (by omega) (by omega) (by omega), hB, xo]; simp only [wi_v, and_self, if_true]; rfl
        · rw [en b y2]
          by_cases y9 : b = P + 9
          · rw [y9, ← en (P + 9) (by omega), e9]
          · exact GD.2.2.2.1 b i y1 y9 y3
      · rw [if_neg q2, h319, if_pos (Or.inr (by omega))]
        exact hbad (Or.inr (by omega))
end MBD
