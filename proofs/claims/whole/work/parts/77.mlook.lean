/-! Fields and bodies: how the reference looks them up. -/
theorem jcP_122 : ∀ k, k < 53 → 8 ≤ k → ja_c 122 k = 122 + (k - 7) := by decide +kernel
theorem jcP_168 : ∀ k, k < 53 → 8 ≤ k → ja_c 168 k = 168 + (k - 7) := by decide +kernel
theorem jcP {P : Nat} (hP : P = 122 ∨ P = 168) (k : Nat) (h : k < 53 ∧ 8 ≤ k) : ja_c P k = P + (k - 7) := by
  rcases hP with rfl | rfl
  · exact jcP_122 k h.1 h.2
  · exact jcP_168 k h.1 h.2
def fb1 (x : Nat) (n : List Int) : List jB → Nat → Option Nat
  | [], _ => none
  | y :: l, i => if y.ow = x ∧ y.nm = n then some i else fb1 x n l (i + 1)
theorem fb1_some {x : Nat} {n : List Int} : ∀ (l : List jB) (i j : Nat), fb1 x n l i = some j → ∃ k y, j = i + k ∧ l[k]? = some y ∧ y.ow = x ∧ y.nm = n := by
  intro l
  induction l with
  | nil => intro i j h; cases h
  | cons y l ih =>
    intro i j h
    rw [fb1] at h
    by_cases q : y.ow = x ∧ y.nm = n
    · rw [if_pos q] at h
      cases h
      exact ⟨0, y, rfl, rfl, q⟩
    · rw [if_neg q] at h
      obtain ⟨k, z, h1, h2, h3⟩ := ih (i + 1) j h
      exact ⟨k + 1, z, by omega, by simpa using h2, h3⟩
theorem fb1_none {x : Nat} {n : List Int} : ∀ (l : List jB) (i : Nat), fb1 x n l i = none → ∀ y ∈ l, ¬ (y.ow = x ∧ y.nm = n) := by
  intro l
  induction l with
  | nil => intro i _ y hy; cases hy
  | cons z l ih =>
    intro i h y hy
    rw [fb1] at h
    by_cases q : z.ow = x ∧ z.nm = n
    · rw [if_pos q] at h; cases h
    · rw [if_neg q] at h
      rcases List.mem_cons.mp hy with e | e
      · rw [e]; exact q
      · exact ih (i + 1) h y e
section MLK
variable {S : nk_S} {tx : List (List Int)} {P : Nat} {ns : List (List Int)} {us : List Int}
theorem m_fdL (hM : MW S tx) (hP : P = 122 ∨ P = 168) (hC : rC S tx P ns us) (hu : uOk us) {fl : List (List Int × Nat × Int)} (hF : rFl S tx P fl) (hO : fOk us fl) {j f0 t0 : Nat} (hj : j < ns.length) (hft : f0 ≤ t0) (ht : t0 ≤ 16000) : ∀ (e f m : Nat), f + e = fl.length → e < m → ja_X13_fieldOf_L3 m 121 P (j : Int) (f0 : Int) (t0 : Int) (f : Int) S = some (fdL us j (sg (S.1 215) f0 t0) (fl.drop f) f, S) := by
  obtain ⟨f1, f2⟩ := hF
  obtain ⟨o1, o2⟩ := hO
  have hT := hM.2.1
  intro e
  induction e with
  | zero =>
    intro f m h1 h2
    obtain ⟨m, rfl⟩ : ∃ q, m = q + 1 := ⟨m - 1, by omega⟩
    show ja_X13_fieldOf_b3 (ja_X13_fieldOf_L3 m) 121 P (j : Int) (f0 : Int) (t0 : Int) (f : Int) S = _
    unfold ja_X13_fieldOf_b3
    rw [f1, if_pos (by omega), List.drop_eq_nil_of_le (by omega)]
    rfl
  | succ e ih =>
    intro f m h1 h2
    obtain ⟨m, rfl⟩ : ∃ q, m = q + 1 := ⟨m - 1, by omega⟩
    show ja_X13_fieldOf_b3 (ja_X13_fieldOf_L3 m) 121 P (j : Int) (f0 : Int) (t0 : Int) (f : Int) S = _
    obtain ⟨x, x1, x2⟩ := drop_at (show f < fl.length by omega)
    obtain ⟨y1, y2, q, y3, y4⟩ := f2 f x x1
    have hq := at_lt y4
    obtain ⟨a, b, e1, e2, e3, e4, e5⟩ := hM.2.2 q _ y4
    have hin : (0 : Int) ≤ (f : Int) ∧ (f : Int) < 48 := in_i (N := 48) (by omega)
    have hnx : ja_X13_fieldOf_L3 m 121 P (j : Int) (f0 : Int) (t0 : Int) (nk_w ((f : Int) + 1)) S = some (fdL us j (sg (S.1 215) f0 t0) (fl.drop (f + 1)) (f + 1), S) := by
      rw [w_nat1 (by omega)]
      exact ih (f + 1) m (by omega) (by omega)
    unfold ja_X13_fieldOf_b3
    rw [f1, if_neg (by omega), if_pos hin, (jcP hP 10 (by decide) : ja_c P 10 = P + 3), Int.toNat_natCast, y1, m_anc hP hC hu hj, bd_some, x2, fdL]
    cases h : anc us j x.2.1 with
    | false => rw [if_pos (show bi false = 0 from rfl), lt_eq, hnx, if_neg (fun z => by cases z.2)]
    | true =>
      rw [if_neg (show ¬ bi true = 0 by decide), jc_121_14, y3, if_pos (in_i (N := 16002) (by omega)), jc_121_8, jc_121_9, Int.toNat_natCast, e1, e2, m_same hft ht (by omega) e4, bd_some, e5]
      by_cases c : sg (S.1 215) f0 t0 = x.1
      · rw [decide_eq_true c, if_neg (show ¬ bi true = 0 by decide), if_pos ⟨c.symm, rfl⟩]
      · rw [decide_eq_false c, if_pos (show bi false = 0 from rfl), lt_eq, hnx, if_neg (fun z => c z.1.symm)]
theorem m_fieldOf (hM : MW S tx) (hP : P = 122 ∨ P = 168) (hC : rC S tx P ns us) (hu : uOk us) {fl : List (List Int × Nat × Int)} (hF : rFl S tx P fl) (hO : fOk us fl) {j f0 t0 : Nat} (hj : j < ns.length) (hft : f0 ≤ t0) (ht : t0 ≤ 16000) : ja_X13_fieldOf 121 P (j : Int) (f0 : Int) (t0 : Int) S = some (fdL us j (sg (S.1 215) f0 t0) fl 0, S) := by
  obtain ⟨m, hm⟩ := big_ge 100 (by decide)
  have := hO.1
  exact m_fdL hM hP hC hu hF hO hj hft ht fl.length 0 nk_big (by omega) (by omega)
theorem m_bd1 (hM : MW S tx) (hP : P = 122 ∨ P = 168) (hC : rC S tx P ns us) {bl : List jB} (hB : rBl S tx P bl) (hO : bl.length ≤ 48) {j f0 t0 : Nat} (hj : j < ns.length) (hft : f0 ≤ t0) (ht : t0 ≤ 16000) {rec3 : Nat → Nat → Int → Int → Int → nk_S → Option (Int × nk_S)} : ∀ (e f m : Nat), f + e = bl.length → e < m → ja_X13_bodyOf_L11 rec3 m 121 P (f0 : Int) (t0 : Int) (j : Int) (f : Int) S = (match fb1 j (sg (S.1 215) f0 t0) (bl.drop f) f with
    | some i => some ((i : Int), S)
    | none => rec3 121 P (f0 : Int) (t0 : Int) (us.getD j 0) S) := by
  obtain ⟨f1, f2⟩ := hB
  obtain ⟨c1, c2, c3, c4, c5, c6⟩ := hC
  have hT := hM.2.1
  intro e
  induction e with
  | zero =>
    intro f m h1 h2
    obtain ⟨m, rfl⟩ : ∃ q, m = q + 1 := ⟨m - 1, by omega⟩
    show ja_X13_bodyOf_b11 rec3 (ja_X13_bodyOf_L11 rec3 m) 121 P (f0 : Int) (t0 : Int) (j : Int) (f : Int) S = _
    unfold ja_X13_bodyOf_b11
    rw [f1, if_pos (by omega), List.drop_eq_nil_of_le (by omega), if_pos (in_i (N := 32) (by omega)), lt_eq, jc_P8 hP, Int.toNat_natCast, c4 j hj]
    rfl
  | succ e ih =>
    intro f m h1 h2
    obtain ⟨m, rfl⟩ : ∃ q, m = q + 1 := ⟨m - 1, by omega⟩
    show ja_X13_bodyOf_b11 rec3 (ja_X13_bodyOf_L11 rec3 m) 121 P (f0 : Int) (t0 : Int) (j : Int) (f : Int) S = _
    obtain ⟨x, x1, x2⟩ := drop_at (show f < bl.length by omega)
    obtain ⟨y1, -, -, -, -, -, y3, y4, -⟩ := f2 f x x1
    have hq := at_lt y4
    obtain ⟨a, b, e1, e2, e3, e4, e5⟩ := hM.2.2 _ _ y4
    have hin : (0 : Int) ≤ (f : Int) ∧ (f : Int) < 48 := in_i (N := 48) (by omega)
    have hnx := ih (f + 1) m (by omega) (by omega)
    rw [← w_nat1 (by omega)] at hnx
    unfold ja_X13_bodyOf_b11
    rw [f1, if_neg (by omega), if_pos hin, (jcP hP 13 (by decide) : ja_c P 13 = P + 6), Int.toNat_natCast, y1, x2, fb1]
    by_cases q : x.ow = j
    · rw [if_pos (show (x.ow : Int) = (j : Int) by omega), jc_121_15, y3, if_pos (in_i (N := 16002) (by omega)), jc_121_8, jc_121_9, Int.toNat_natCast, e1, e2, m_same hft ht (by omega) e4, bd_some, e5]
      by_cases c : sg (S.1 215) f0 t0 = x.nm
      · rw [decide_eq_true c, if_neg (show ¬ bi true = 0 by decide), if_pos ⟨q, c.symm⟩]
      · rw [decide_eq_false c, if_pos (show bi false = 0 from rfl), lt_eq, hnx, if_neg (fun z => c z.2.symm)]
    · rw [if_neg (show ¬ (x.ow : Int) = (j : Int) by omega), lt_eq, hnx, if_neg (fun z => q z.1)]
theorem m_bdL (hM : MW S tx) (hP : P = 122 ∨ P = 168) (hC : rC S tx P ns us) (hu : uOk us) {bl : List jB} (hB : rBl S tx P bl) (hO : bOk us bl) {f0 t0 : Nat} (hft : f0 ≤ t0) (ht : t0 ≤ 16000) : ∀ (n j m : Nat), j < n → j < ns.length → n < m → ja_X13_bodyOf_L3 m 121 P (f0 : Int) (t0 : Int) (j : Int) S = some (bdL us j (sg (S.1 215) f0 t0) bl 0 (-1), S) := by
  have hlen := hC.2.2.1
  have h32 := hC.2.1
  obtain ⟨bm, hbm⟩ := big_ge 100 (by decide)
  intro n
  induction n with
  | zero => intro j m h; omega
  | succ n ih =>
    intro j m h1 h2 h3
    obtain ⟨m, rfl⟩ : ∃ q, m = q + 1 := ⟨m - 1, by omega⟩
    show ja_X13_bodyOf_b3 (ja_X13_bodyOf_L3 m) 121 P (f0 : Int) (t0 : Int) (j : Int) S = _
    have ho := hO.1
    unfold ja_X13_bodyOf_b3
    rw [if_neg (show ¬ (j : Int) < 0 by omega)]
    rw [show (0 : Int) = ((0 : Nat) : Int) from rfl, m_bd1 hM hP hC hB hO.1 h2 hft ht bl.length 0 nk_big (by omega) (by omega), List.drop_zero]
    cases hf : fb1 j (sg (S.1 215) f0 t0) bl 0 with
    | some i =>
      obtain ⟨k, y, e1, e2, e3, e4⟩ := fb1_some _ _ _ hf
      have := bdL_in (us := us) (c := j) (n := sg (S.1 215) f0 t0) bl 0 (-1) k y e2 ⟨e4, by rw [e3]; exact anc_self j⟩ (fun l z hl hz hc => by
        obtain ⟨g1, g2⟩ := hO.2.2 k l y z hl e2 hz
        have := anc_le hu (by omega) _ j z.ow (Nat.lt_succ_self j) (by omega) hc.2
        exact g2 ⟨by rw [e4, hc.1], by omega⟩)
      rw [this, e1]
    | none =>
      have hn := fb1_none _ _ hf
      by_cases q : j = 0
      · subst q
        rw [hu.1]
        obtain ⟨m, rfl⟩ : ∃ q, m = q + 1 := ⟨m - 1, by omega⟩
        show ja_X13_bodyOf_b3 (ja_X13_bodyOf_L3 m) 121 P (f0 : Int) (t0 : Int) (-1) S = _
        unfold ja_X13_bodyOf_b3
        rw [if_pos (by decide), bdL_no]
        intro x hx hc
        have h0 := hc.2
        rw [anc_0 hu] at h0
        exact hn x hx ⟨(of_decide_eq_true h0).symm, hc.1⟩
      · obtain ⟨u, u1, u2⟩ := hu.2 j (by omega) (by omega)
        show ja_X13_bodyOf_L3 m 121 P (f0 : Int) (t0 : Int) (us.getD j 0) S = _
        rw [u1, ih u m (by omega) (by omega) (by omega)]
        rw [bdL_cg (c := j) (d := u) bl 0 (-1) (fun x hx hc => by
          rw [anc_s hu (by omega) (by omega) (by omega) u1, decide_eq_false (fun e => hn x hx ⟨e.symm, hc⟩), Bool.false_or])]
theorem m_bodyOf (hM : MW S tx) (hP : P = 122 ∨ P = 168) (hC : rC S tx P ns us) (hu : uOk us) {bl : List jB} (hB : rBl S tx P bl) (hO : bOk us bl) {j f0 t0 : Nat} (hj : j < ns.length) (hft : f0 ≤ t0) (ht : t0 ≤ 16000) : ja_X13_bodyOf 121 P (j : Int) (f0 : Int) (t0 : Int) S = some (bdL us j (sg (S.1 215) f0 t0) bl 0 (-1), S) := by
  obtain ⟨m, hm⟩ := big_ge 100 (by decide)
  have := hC.2.1
  exact m_bdL hM hP hC hu hB hO hft ht 32 j nk_big (by omega) hj (by omega)
end MLK
