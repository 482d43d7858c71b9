/-! Lines: the reference's view; thresholds, catches. -/
def rA (x : jC) : Int := if x.1 = 30 ∨ x.1 = 31 then x.2.2.1 else if x.1 = 37 ∨ x.1 = 38 then rvT x.2.1 else x.2.1
def rB2 (x : jC) : Int := if x.1 = 30 ∨ x.1 = 31 then 0 else x.2.2.1
def rCd (S : nk_S) (P : Nat) (cl : List jC) : Prop := S.1 P 3 = (cl.length : Int) ∧ ∀ (i : Nat) (x : jC), cl[i]? = some x → S.1 (P + 15) i = (x.1 : Int) ∧ S.1 (P + 16) i = rA x ∧ S.1 (P + 17) i = rB2 x ∧ S.1 (P + 18) i = (x.2.2.2.1 : Int) ∧ S.1 224 i = (x.2.2.2.2 : Int)
def rSl (S : nk_S) (P : Nat) (sl : List Int) : Prop := S.1 P 4 = (sl.length : Int) ∧ ∀ (i : Nat) (t : Int), sl[i]? = some t → S.1 (P + 20) i = rvT t
def rKl (S : nk_S) (P : Nat) (kl : List (Nat × Nat × Nat × Nat × Nat)) : Prop := S.1 P 5 = (kl.length : Int) ∧ ∀ (i : Nat) (x : Nat × Nat × Nat × Nat × Nat), kl[i]? = some x → S.1 (P + 21) i = (x.1 : Int) ∧ S.1 (P + 22) i = (x.2.1 : Int) ∧ S.1 (P + 23) i = (x.2.2.1 : Int) ∧ S.1 (P + 24) i = (x.2.2.2.1 : Int) ∧ S.1 (P + 25) i = (x.2.2.2.2 : Int)
def rTn (S : nk_S) (P n : Nat) (F : Int → Prop) : Prop := S.1 P 7 = (n : Int) ∧ srt (S.1 (P + 26)) n ∧ ∀ y, has (S.1 (P + 26)) n y ↔ F y
def rTh (S : nk_S) (P : Nat) (nl : List Int) : Prop := ∃ n, n ≤ 3 * nl.length ∧ rTn S P n (fun y => ∃ x ∈ nl, nbr x y)
def rJL (S : nk_S) (P : Nat) (z : jL) : Prop := rCd S P z.1 ∧ rSl S P z.2.1 ∧ rKl S P z.2.2.1 ∧ rTh S P z.2.2.2
def rK (P : Nat) (S S' : nk_S) : Prop := S'.2 = S.2 ∧ (∀ c, c ≠ 121 → c ≠ 224 → c ≠ P → ¬ (P + 15 ≤ c ∧ c ≤ P + 18) → ¬ (P + 20 ≤ c ∧ c ≤ P + 26) → S'.1 c = S.1 c) ∧ (∀ i, i ≠ 12 → S'.1 121 i = S.1 121 i) ∧ ∀ i, i ≠ 3 → i ≠ 4 → i ≠ 5 → i ≠ 7 → S'.1 P i = S.1 P i
theorem rK_trans {P : Nat} {S1 S2 S3 : nk_S} (h : rK P S1 S2) (k : rK P S2 S3) : rK P S1 S3 := ⟨k.1.trans h.1, fun b x y z w v => (k.2.1 b x y z w v).trans (h.2.1 b x y z w v), fun i x => (k.2.2.1 i x).trans (h.2.2.1 i x), fun i x y z w => (k.2.2.2 i x y z w).trans (h.2.2.2 i x y z w)⟩
theorem rK_rfl {P : Nat} {S : nk_S} : rK P S S := ⟨rfl, fun _ _ _ _ _ _ => rfl, fun _ _ => rfl, fun _ _ _ _ _ => rfl⟩
theorem rK_w {P : Nat} (hP : P = 122 ∨ P = 168) {S : nk_S} {x : Int} : rK P S (nk_wi S 121 12 x) := ⟨rfl, fun c h _ _ _ _ => wi_n h, fun i h => by rw [wi_at, if_neg h], fun i _ _ _ _ => by rw [wi_n (by omega)]⟩
section MCD
variable {tx : List (List Int)} {P : Nat} {ns : List (List Int)} {us : List Int} {fl : List (List Int × Nat × Int)} {bl : List jB} {ls : List (List Int × Nat × Nat)} {en b : Nat} {lc : Int} {z : jL}
theorem MW_K (hP : P = 122 ∨ P = 168) {S S' : nk_S} (h : rK P S S') (hM : MW S tx) : MW S' tx := MW_c (h.2.2.1 10 (by decide)) (h.2.1 216 (by omega) (by omega) (by omega) (by omega) (by omega)) (h.2.1 217 (by omega) (by omega) (by omega) (by omega) (by omega)) (h.2.1 215 (by omega) (by omega) (by omega) (by omega) (by omega)) hM
theorem rLs_K (hP : P = 122 ∨ P = 168) {S S' : nk_S} (h : rK P S S') (hL : rLs S tx ls) : rLs S' tx ls := by
  obtain ⟨l1, l2, l3⟩ := hL
  refine ⟨by rw [h.2.2.1 19 (by decide)]; exact l1, l2, ?_⟩
  rw [h.2.1 222 (by omega) (by omega) (by omega) (by omega) (by omega), h.2.1 223 (by omega) (by omega) (by omega) (by omega) (by omega)]
  exact l3
theorem rVm_K (hP : P = 122 ∨ P = 168) {S S' : nk_S} (h : rK P S S') (hV : rVm S tx P ns us fl bl) : rVm S' tx P ns us fl bl := by
  obtain ⟨v1, v2, v3, v4⟩ := hV
  have k := fun c x y z w v => h.2.1 c x y z w v
  refine ⟨MW_K hP h v1, rC_c (h.2.2.2 0 (by decide) (by decide) (by decide) (by decide)) (k (P + 1) (by omega) (by omega) (by omega) (by omega) (by omega)) (k 218 (by omega) (by omega) (by omega) (by omega) (by omega)) v2, ⟨by rw [h.2.2.2 1 (by decide) (by decide) (by decide) (by decide)]; exact v3.1, fun f x hx => ?_⟩, ⟨by rw [h.2.2.2 2 (by decide) (by decide) (by decide) (by decide)]; exact v4.1, fun b x hx => ?_⟩⟩
  · rw [k (P + 3) (by omega) (by omega) (by omega) (by omega) (by omega), k (P + 4) (by omega) (by omega) (by omega) (by omega) (by omega), k 219 (by omega) (by omega) (by omega) (by omega) (by omega)]
    exact v3.2 f x hx
  · have := v4.2 b x hx
    unfold rB1 at this ⊢
    rw [k (P + 6) (by omega) (by omega) (by omega) (by omega) (by omega), k (P + 7) (by omega) (by omega) (by omega) (by omega) (by omega), k (P + 8) (by omega) (by omega) (by omega) (by omega) (by omega), k (P + 9) (by omega) (by omega) (by omega) (by omega) (by omega), k (P + 10) (by omega) (by omega) (by omega) (by omega) (by omega), k (P + 11) (by omega) (by omega) (by omega) (by omega) (by omega), k 220 (by omega) (by omega) (by omega) (by omega) (by omega), k 221 (by omega) (by omega) (by omega) (by omega) (by omega)]
    exact this
theorem rJL_c {S S' : nk_S} (h : ∀ c, c = P ∨ c = 224 ∨ (P + 15 ≤ c ∧ c ≤ P + 26) → S'.1 c = S.1 c) (hZ : rJL S P z) : rJL S' P z := by
  unfold rJL rCd rSl rKl rTh rTn at hZ ⊢
  rw [h P (by omega), h (P + 15) (by omega), h (P + 16) (by omega), h (P + 17) (by omega), h (P + 18) (by omega), h 224 (by omega), h (P + 20) (by omega), h (P + 21) (by omega), h (P + 22) (by omega), h (P + 23) (by omega), h (P + 24) (by omega), h (P + 25) (by omega), h (P + 26) (by omega)]
  exact hZ
/-- thresholds around a number -/
def rT1 (P : Nat) (S S' : nk_S) : Prop := S'.2 = S.2 ∧ (∀ c, c ≠ P → c ≠ P + 26 → S'.1 c = S.1 c) ∧ ∀ i, i ≠ 7 → S'.1 P i = S.1 P i
theorem m_thr1 (hP : P = 122 ∨ P = 168) {S : nk_S} {n : Nat} {F : Int → Prop} (h : rTn S P n F) (hn : n < 3079) (v : Int) : ∃ S' n', ja_X13_threshold 121 P v S = some (0, S') ∧ n' ≤ n + 1 ∧ rTn S' P n' (fun y => F y ∨ (y = v ∧ -2147483648 ≤ v ∧ v ≤ 2147483647)) ∧ rT1 P S S' := by
  by_cases q1 : v < -2147483648
  · refine ⟨S, n, ?_, by omega, ⟨h.1, h.2.1, fun y => ?_⟩, rfl, fun _ _ _ => rfl, fun _ _ => rfl⟩
    · unfold ja_X13_threshold; rw [if_pos q1]
    · rw [h.2.2 y]
      exact ⟨Or.inl, fun h => h.elim id (fun h => by omega)⟩
  · by_cases q2 : v ≤ 2147483647
    · obtain ⟨S', n', s1, s2, s3, s4, s5, s6, s7, s8, s9⟩ := m_thr hP (x := v) (by omega) q2 h.1 hn h.2.1
      refine ⟨S', n', s1, s4, ⟨s2, s5, fun y => ?_⟩, s7, s8, s9⟩
      rw [s6 y, h.2.2 y]
      constructor
      · rintro (h | h)
        · exact Or.inl h
        · exact Or.inr ⟨h, by omega, q2⟩
      · rintro (h | h)
        · exact Or.inl h
        · exact Or.inr h.1
    · refine ⟨S, n, ?_, by omega, ⟨h.1, h.2.1, fun y => ?_⟩, rfl, fun _ _ _ => rfl, fun _ _ => rfl⟩
      · unfold ja_X13_threshold; rw [if_neg q1, if_neg q2]
      · rw [h.2.2 y]
        exact ⟨Or.inl, fun h => h.elim id (fun h => by omega)⟩
theorem rT1_trans {S1 S2 S3 : nk_S} (h : rT1 P S1 S2) (k : rT1 P S2 S3) : rT1 P S1 S3 := ⟨k.1.trans h.1, fun b x y => (k.2.1 b x y).trans (h.2.1 b x y), fun i x => (k.2.2 i x).trans (h.2.2 i x)⟩
theorem m_thrs (hP : P = 122 ∨ P = 168) {S : nk_S} {nl : List Int} (h : rTh S P nl) (hl : nl.length < 1024) (x : Int) (h1 : -2147483648 ≤ x) (h2 : x ≤ 2147483647) : ∃ S', ja_X13_thresholds 121 P x S = some (0, S') ∧ rT1 P S S' ∧ rTh S' P (nl ++ [x]) := by
  obtain ⟨n, n1, n2⟩ := h
  obtain ⟨A, na, a1, a2, a3, a4⟩ := m_thr1 hP n2 (by omega) (x - 1)
  obtain ⟨B, nb, b1, b2, b3, b4⟩ := m_thr1 hP a3 (by omega) x
  obtain ⟨D, nd, d1, d2, d3, d4⟩ := m_thr1 hP b3 (by omega) (x + 1)
  refine ⟨D, ?_, rT1_trans a4 (rT1_trans b4 d4), nd, by rw [List.length_append, List.length_cons, List.length_nil]; omega, d3.1, d3.2.1, fun y => ?_⟩
  · obtain ⟨m, hm⟩ := big_ge 10 (by decide)
    have w1 : nk_W (x - 1) = x - 1 := nk_W_id (by omega) (by omega)
    have w2 : nk_W (x + 1) = x + 1 := nk_W_id (by omega) (by omega)
    have w3 : nk_W (x + 1 + 1) = x + 2 := by rw [show x + 1 + 1 = x + 2 by omega]; exact nk_W_id (by omega) (by omega)
    have w4 : nk_W (x - 1 + 1) = x := by rw [show x - 1 + 1 = x by omega]; exact nk_W_id (by omega) (by omega)
    have c1 : ¬ x + 1 < x - 1 := by clear w1 w2 w3 w4; omega
    have c2 : ¬ x + 1 < x := by clear w1 w2 w3 w4; omega
    have c3 : ¬ x + 1 < x + 1 := by clear w1 w2 w3 w4; omega
    have c4 : x + 1 < x + 2 := by clear w1 w2 w3 w4; omega
    have e : nk_big = (m + 6) + 1 + 1 + 1 + 1 := by clear w1 w2 w3 w4; omega
    unfold ja_X13_thresholds
    rw [lt_eq, w1, e]
    show ja_X13_thresholds_b5 (ja_X13_thresholds_L5 ((m + 6) + 1 + 1 + 1)) 121 P x (x - 1) S = _
    unfold ja_X13_thresholds_b5
    rw [w2, if_neg c1, a1, bd_some, lt_eq, w4]
    show ja_X13_thresholds_b5 (ja_X13_thresholds_L5 ((m + 6) + 1 + 1)) 121 P x x A = _
    unfold ja_X13_thresholds_b5
    rw [w2, if_neg c2, b1, bd_some, lt_eq]
    show ja_X13_thresholds_b5 (ja_X13_thresholds_L5 ((m + 6) + 1)) 121 P x (x + 1) B = _
    unfold ja_X13_thresholds_b5
    rw [w2, if_neg c3, d1, bd_some, lt_eq, w3]
    show ja_X13_thresholds_b5 (ja_X13_thresholds_L5 (m + 6)) 121 P x (x + 2) D = _
    unfold ja_X13_thresholds_b5
    rw [w2, if_pos c4]
  · rw [d3.2.2 y]
    unfold nbr
    constructor
    · rintro (((⟨w, w1, w2⟩ | h) | h) | h)
      · exact ⟨w, List.mem_append_left _ w1, w2⟩
      · exact ⟨x, List.mem_append_right _ List.mem_cons_self, Or.inr (Or.inl ⟨h.1, by omega⟩)⟩
      · exact ⟨x, List.mem_append_right _ List.mem_cons_self, Or.inl h.1⟩
      · exact ⟨x, List.mem_append_right _ List.mem_cons_self, Or.inr (Or.inr ⟨h.1, by omega⟩)⟩
    · rintro ⟨w, w1, w2⟩
      rcases List.mem_append.mp w1 with e | e
      · exact Or.inl (Or.inl (Or.inl ⟨w, e, w2⟩))
      · have : w = x := by simpa using e
        subst this
        rcases w2 with e | e | e
        · exact Or.inl (Or.inr ⟨e, by omega, by omega⟩)
        · exact Or.inl (Or.inl (Or.inr ⟨e.1, by omega, by omega⟩))
        · exact Or.inr ⟨e.1, by omega, by omega⟩
/-- a catch -/
theorem m_catch (hP : P = 122 ∨ P = 168) {S : nk_S} (hV : rVm S tx P ns us fl bl) (hu : uOk us) (hZ : rJL S P z) (hoz : oJL z) (hL : rLs S tx ls) (hb : b < 48) {a : Nat} (g0 : fW tx 59 (a + 1) = false) (g1 : fW tx 46 a = true) (g2 : fN tx (a + 1) = true) (g3 : fN tx (a + 2) = true) (g4 : fN tx (a + 3) = true) (g5 : fC tx (a + 4) = true) : ∃ S', mcA (lnS tx ns us fl bl ls en b lc a z).1 (ja_X13_catchLine 121 P (b : Int) (a : Int) (en : Int) S) S' ∧ rK P S S' ∧ ((lnS tx ns us fl bl ls en b lc a z).1 = none → rJL S' P (lnS tx ns us fl bl ls en b lc a z).2) := by
  obtain ⟨hM, hC, hF, hB⟩ := hV
  have hT := hM.2.1
  have hns := hC.2.1
  have l5 := fC_T g5
  have r1 := lat_rg ls (tx.getD (a + 1) [])
  have r2 := lat_rg ls (tx.getD (a + 2) [])
  have r3 := lat_rg ls (tx.getD (a + 3) [])
  have r4 := amx_rg (tx.getD (a + 4) []) ns 0
  have e1 := m_labA hM hL (show a + 1 < tx.length by omega)
  have e2 := m_labA hM hL (show a + 2 < tx.length by omega)
  have e3 := m_labA hM hL (show a + 3 < tx.length by omega)
  unfold lnS
  rw [if_neg (show ¬ fW tx 59 (a + 1) = true by rw [g0]; decide), if_pos g1]
  unfold ja_X13_catchLine
  have hk5 : S.1 P 5 = (z.2.2.1.length : Int) := hZ.2.2.1.1
  have h64 := hoz.2.2.1
  rw [hk5]
  have fin : ∀ y : Nat, ∃ S', mcA ((some y, z) : Option Nat × jL).1 (nk_bd (ja_X13_wrong 121 (y : Int) S) fun r S2 => if r = 0 ∨ r = 1 then some (r, S2) else none) S' ∧ rK P S S' ∧ (((some y, z) : Option Nat × jL).1 = none → rJL S' P ((some y, z) : Option Nat × jL).2) := fun y => ⟨nk_wi S 121 12 (y : Int), ⟨rfl, by rw [wi_at, if_pos rfl]⟩, rK_w hP, fun h => by cases h⟩
  by_cases q0 : 64 ≤ z.2.2.1.length
  · rw [if_pos q0, if_pos (show (z.2.2.1.length : Int) = 64 by omega)]
    exact fin a
  rw [if_neg q0, if_neg (show ¬ (z.2.2.1.length : Int) = 64 by omega), w_nat1 (by omega), e1, bd_some]
  by_cases q1 : lat ls (tx.getD (a + 1) []) < 0
  · rw [if_pos q1, if_neg (show ¬ 0 ≤ lat ls (tx.getD (a + 1) []) by omega)]
    exact fin (a + 1)
  rw [if_neg q1, if_pos (show 0 ≤ lat ls (tx.getD (a + 1) []) by omega), w_n2 (by omega), e2, bd_some]
  by_cases q2 : lat ls (tx.getD (a + 2) []) ≤ lat ls (tx.getD (a + 1) [])
  · rw [if_pos q2, if_neg (show ¬ lat ls (tx.getD (a + 1) []) < lat ls (tx.getD (a + 2) []) by omega)]
    exact fin (a + 2)
  rw [if_neg q2, if_pos (show lat ls (tx.getD (a + 1) []) < lat ls (tx.getD (a + 2) []) by omega)]
  have h82 : ja_X13_catchLine_b82 121 (a : Int) S = nk_bd (ja_X13_wrong 121 ((a + 3 : Nat) : Int) S) fun r S2 => if r = 0 ∨ r = 1 then some (r, S2) else none := by unfold ja_X13_catchLine_b82; rw [w_n3 (by omega)]
  have h115 : ja_X13_catchLine_b115 121 (a : Int) S = nk_bd (ja_X13_wrong 121 ((a + 4 : Nat) : Int) S) fun r S2 => if r = 0 ∨ r = 1 then some (r, S2) else none := by unfold ja_X13_catchLine_b115; rw [w_n4 (by omega)]
  unfold ja_X13_catchLine_b61
  rw [w_n3 (by omega), e3, bd_some, h82]
  by_cases q3 : lat ls (tx.getD (a + 3) []) < 0 ∨ (en : Int) ≤ lat ls (tx.getD (a + 3) [])
  · rw [if_pos q3]
    by_cases q4 : lat ls (tx.getD (a + 3) []) < 0
    · rw [if_pos q4]; exact fin (a + 3)
    · rw [if_neg q4, if_neg (show ¬ lat ls (tx.getD (a + 3) []) < (en : Int) by omega)]; exact fin (a + 3)
  rw [if_neg q3, if_neg (show ¬ lat ls (tx.getD (a + 3) []) < 0 by omega), if_pos (show lat ls (tx.getD (a + 3) []) < (en : Int) by omega), w_n4 (by omega), m_classTok hM hP hC (by omega), bd_some, h115]
  by_cases q4 : amx (tx.getD (a + 4) []) ns 0 < 0
  · rw [if_pos (Or.inl q4), if_pos q4]; exact fin (a + 4)
  obtain ⟨k, hk⟩ : ∃ k : Nat, amx (tx.getD (a + 4) []) ns 0 = (k : Int) := ⟨(amx (tx.getD (a + 4) []) ns 0).toNat, by omega⟩
  have hkl : k < ns.length := by omega
  have e8 : ja_X13_isAtOrBelow P (k : Int) 1 S = some (bi (anc us k 1), S) := m_anc (d := 1) hP hC hu hkl
  rw [if_neg q4, hk, Int.toNat_natCast, e8, bd_some, h115]
  cases h : anc us k 1 with
  | false =>
    rw [if_pos (show (k : Int) < 0 ∨ false = false from Or.inr rfl), if_pos (show bi false = 0 from rfl)]
    exact fin (a + 4)
  | true =>
    rw [if_neg (show ¬ ((k : Int) < 0 ∨ true = false) from fun hh => hh.elim (fun e => by omega) (fun e => by cases e)), if_neg (show ¬ bi true = 0 by decide)]
    obtain ⟨x1, hx1⟩ : ∃ x : Nat, lat ls (tx.getD (a + 1) []) = (x : Int) := ⟨(lat ls (tx.getD (a + 1) [])).toNat, by omega⟩
    obtain ⟨x2, hx2⟩ : ∃ x : Nat, lat ls (tx.getD (a + 2) []) = (x : Int) := ⟨(lat ls (tx.getD (a + 2) [])).toNat, by omega⟩
    obtain ⟨x3, hx3⟩ : ∃ x : Nat, lat ls (tx.getD (a + 3) []) = (x : Int) := ⟨(lat ls (tx.getD (a + 3) [])).toNat, by omega⟩
    rw [hx1, hx2, hx3, Int.toNat_natCast, Int.toNat_natCast, Int.toNat_natCast]
    obtain ⟨kl, hkl2⟩ : ∃ kl, kl = z.2.2.1 := ⟨_, rfl⟩
    rw [← hkl2] at hk5 q0 ⊢
    have hin : (0 : Int) ≤ (kl.length : Int) ∧ (kl.length : Int) < 64 := in_i (N := 64) (by omega)
    have hPn : P ≠ P + 21 ∧ P ≠ P + 22 ∧ P ≠ P + 23 ∧ P ≠ P + 24 ∧ P ≠ P + 25 := by omega
    obtain ⟨p1, p2, p3, p4, p5⟩ := hPn
    rw [hk5, if_pos hin, lt_eq, (jcP hP 28 (by decide) : ja_c P 28 = P + 21), Int.toNat_natCast]
    rw [wi_n p1, hk5, if_pos hin, lt_eq, (jcP hP 29 (by decide) : ja_c P 29 = P + 22), Int.toNat_natCast]
    rw [wi_n p2, wi_n p1, hk5, if_pos hin, lt_eq, (jcP hP 30 (by decide) : ja_c P 30 = P + 23), Int.toNat_natCast]
    rw [wi_n p3, wi_n p2, wi_n p1, hk5, if_pos hin, lt_eq, (jcP hP 31 (by decide) : ja_c P 31 = P + 24), Int.toNat_natCast]
    rw [wi_n p4, wi_n p3, wi_n p2, wi_n p1, hk5, if_pos hin, lt_eq, (jcP hP 32 (by decide) : ja_c P 32 = P + 25), Int.toNat_natCast, lt_eq]
    rw [wi_n p5, wi_n p4, wi_n p3, wi_n p2, wi_n p1, hk5, w_nat1 (by omega)]
    obtain ⟨T, hTT⟩ : ∃ T, T = nk_wi (nk_wi (nk_wi (nk_wi (nk_wi S (P + 21) kl.length (b : Int)) (P + 22) kl.length (x1 : Int)) (P + 23) kl.length (x2 : Int)) (P + 24) kl.length (x3 : Int)) (P + 25) kl.length (k : Int) := ⟨_, rfl⟩
    rw [← hTT]
    obtain ⟨U, hU⟩ : ∃ U, U = nk_wi T P 5 ((kl.length + 1 : Nat) : Int) := ⟨_, rfl⟩
    rw [← hU]
    have un : ∀ c, c ≠ P → ¬ (P + 21 ≤ c ∧ c ≤ P + 25) → U.1 c = S.1 c := fun c x y => by rw [hU, wi_n x, hTT, wi_n (by omega), wi_n (by omega), wi_n (by omega), wi_n (by omega), wi_n (by omega)]
    have uP : ∀ i, i ≠ 5 → U.1 P i = S.1 P i := fun i hi => by rw [hU, wi_at, if_neg hi, hTT, wi_n p5, wi_n p4, wi_n p3, wi_n p2, wi_n p1]
    refine ⟨U, rfl, ⟨by rw [hU, hTT]; rfl, fun c _ _ x _ y => un c x (by omega), fun i _ => by rw [un 121 (by omega) (by omega)], fun i _ _ x _ => uP i x⟩, fun _ => ⟨?_, ?_, ⟨by rw [hU, wi_at, if_pos rfl, List.length_append]; rfl, fun i x hx => ?_⟩, ?_⟩⟩
    · have := hZ.1
      unfold rCd at this ⊢
      rw [uP 3 (by decide), un (P + 15) (by omega) (by omega), un (P + 16) (by omega) (by omega), un (P + 17) (by omega) (by omega), un (P + 18) (by omega) (by omega), un 224 (by omega) (by omega)]
      exact this
    · have := hZ.2.1
      unfold rSl at this ⊢
      rw [uP 4 (by decide), un (P + 20) (by omega) (by omega)]
      exact this
    · have q1 : U.1 (P + 21) i = if i = kl.length then (b : Int) else S.1 (P + 21) i := by rw [hU, wi_n (by omega), hTT, wi_n (by omega), wi_n (by omega), wi_n (by omega), wi_n (by omega), wi_at]
      have q2 : U.1 (P + 22) i = if i = kl.length then (x1 : Int) else S.1 (P + 22) i := by rw [hU, wi_n (by omega), hTT, wi_n (by omega), wi_n (by omega), wi_n (by omega), wi_at, wi_n (by omega)]
      have q3 : U.1 (P + 23) i = if i = kl.length then (x2 : Int) else S.1 (P + 23) i := by rw [hU, wi_n (by omega), hTT, wi_n (by omega), wi_n (by omega), wi_at, wi_n (by omega), wi_n (by omega)]
      have q4 : U.1 (P + 24) i = if i = kl.length then (x3 : Int) else S.1 (P + 24) i := by rw [hU, wi_n (by omega), hTT, wi_n (by omega), wi_at, wi_n (by omega), wi_n (by omega), wi_n (by omega)]
      have q5 : U.1 (P + 25) i = if i = kl.length then (k : Int) else S.1 (P + 25) i := by rw [hU, wi_n (by omega), hTT, wi_at, wi_n (by omega), wi_n (by omega), wi_n (by omega), wi_n (by omega)]
      rw [q1, q2, q3, q4, q5]
      rcases fl_case hx with ⟨z1, e⟩ | ⟨z1, e⟩
      · rw [if_neg (by omega), if_neg (by omega), if_neg (by omega), if_neg (by omega), if_neg (by omega)]
        rw [hkl2] at e
        exact hZ.2.2.1.2 i x e
      · rw [if_pos z1, if_pos z1, if_pos z1, if_pos z1, if_pos z1, e]
        exact ⟨rfl, rfl, rfl, rfl, rfl⟩
    · have := hZ.2.2.2
      unfold rTh rTn at this ⊢
      rw [uP 7 (by decide), un (P + 26) (by omega) (by omega)]
      exact this
end MCD
