/-! The reference: arrays, types, references, numbers; what shapes are. -/
def arE (l : List Int) : Bool := decide (2 < l.length ∧ l.getD (l.length - 2) 0 = 91 ∧ l.getD (l.length - 1) 0 = 93)
def tyB (l : List Int) : List Int := if arE l = true then l.take (l.length - 2) else l
def isT (l : List Int) : Bool := decide (tyB l = [105, 110, 116] ∨ nmS (tyB l) = 2)
section MWT
variable {S : nk_S} {tx : List (List Int)}
theorem MW_get (hM : MW S tx) {i : Nat} (hi : i < tx.length) : ∃ f t : Nat, S.1 216 i = (f : Int) ∧ S.1 217 i = (t : Int) ∧ f < t ∧ t ≤ 16000 ∧ sg (S.1 215) f t = tx.getD i [] ∧ i < 16000 := by
  obtain ⟨h1, h2, h3⟩ := hM
  obtain ⟨f, t, e1, e2, e3, e4, e5⟩ := h3 i _ (List.getElem?_eq_getElem hi)
  refine ⟨f, t, e1, e2, e3, e4, ?_, by omega⟩
  rw [e5, List.getD_eq_getElem?_getD, List.getElem?_eq_getElem hi, Option.getD_some]
theorem m_arr (hM : MW S tx) {i : Nat} (hi : i < tx.length) : ja_X13_isArray 121 (i : Int) S = some (bi (arE (tx.getD i [])), S) := by
  obtain ⟨f, t, e1, e2, e3, e4, e5, e6⟩ := MW_get hM hi
  unfold ja_X13_isArray arE
  rw [if_pos (in_i (N := 16002) (by omega)), jc_121_9, jc_121_8, jc_121_6, Int.toNat_natCast, e1, e2, w_sub (by omega) (by omega), ← e5, sg_len]
  by_cases c1 : ((t - f : Nat) : Int) ≤ 2
  · rw [if_pos c1, decide_eq_false (by omega)]; rfl
  · rw [if_neg c1, show ((2 : Int)) = ((2 : Nat) : Int) from rfl, w_sub (b := 2) (by omega) (by omega), show ((1 : Int)) = ((1 : Nat) : Int) from rfl, w_sub (b := 1) (by omega) (by omega), if_pos (in_i (N := 16000) (by omega)), if_pos (in_i (N := 16000) (by omega)), Int.toNat_natCast, Int.toNat_natCast, sg_getD (by omega), sg_getD (by omega), show f + (t - f - 2) = t - 2 by omega, show f + (t - f - 1) = t - 1 by omega]
    by_cases c2 : S.1 215 (t - 2) = 91
    · rw [if_pos c2]
      by_cases c3 : S.1 215 (t - 1) = 93
      · rw [if_pos c3, decide_eq_true ⟨by omega, c2, c3⟩]; rfl
      · rw [if_neg c3, decide_eq_false (fun h => c3 h.2.2)]; rfl
    · rw [if_neg c2, decide_eq_false (fun h => c2 h.2.1)]; rfl
theorem m_ty35 {f u i : Nat} (hi : i < 16002) (e1 : S.1 216 i = (f : Int)) (hfu : f ≤ u) (hu : u ≤ 16000) : ja_X13_isType_b35 121 (i : Int) (u : Int) S = some (bi (decide (sg (S.1 215) f u = [105, 110, 116] ∨ nmS (sg (S.1 215) f u) = 2)), S) := by
  have hb : ja_X13_isType_b92 121 (i : Int) (u : Int) 0 S = some (bi (decide (nmS (sg (S.1 215) f u) = 2)), S) := by
    unfold ja_X13_isType_b92
    rw [if_pos rfl, if_pos (in_i (N := 16002) (by omega)), jc_121_8, Int.toNat_natCast, e1, m_name2 (by omega) hu, bd_some]
    cases decide (nmS (sg (S.1 215) f u) = 2) <;> rfl
  have hno : ¬ sg (S.1 215) f u = [105, 110, 116] → ja_X13_isType_b91 121 (i : Int) (u : Int) S = some (bi (decide (sg (S.1 215) f u = [105, 110, 116] ∨ nmS (sg (S.1 215) f u) = 2)), S) := by
    intro h
    unfold ja_X13_isType_b91
    rw [hb]
    exact congrArg (fun z => some (bi z, S)) (decide_eq_decide.mpr (by simp only [h, false_or]))
  unfold ja_X13_isType_b35
  rw [if_pos (in_i (N := 16002) (by omega)), jc_121_8, jc_121_6, Int.toNat_natCast, e1, w_sub hfu (by omega)]
  by_cases c0 : ((u - f : Nat) : Int) = 3
  · have hs : sg (S.1 215) f u = [S.1 215 f, S.1 215 (f + 1), S.1 215 (f + 2)] := by
      rw [sg_cons _ (show f < u by omega), sg_cons _ (show f + 1 < u by omega), sg_cons _ (show f + 1 + 1 < u by omega), sg_nil _ (by omega)]
    rw [if_pos c0, show ((3 : Int)) = ((3 : Nat) : Int) from rfl, w_sub (b := 3) (by omega) (by omega), show ((2 : Int)) = ((2 : Nat) : Int) from rfl, w_sub (b := 2) (by omega) (by omega), show ((1 : Int)) = ((1 : Nat) : Int) from rfl, w_sub (b := 1) (by omega) (by omega), if_pos (in_i (N := 16000) (by omega)), if_pos (in_i (N := 16000) (by omega)), if_pos (in_i (N := 16000) (by omega)), Int.toNat_natCast, Int.toNat_natCast, Int.toNat_natCast, show u - 3 = f by omega, show u - 2 = f + 1 by omega, show u - 1 = f + 2 by omega]
    by_cases c1 : S.1 215 f = 105
    · rw [if_pos c1]
      by_cases c2 : S.1 215 (f + 1) = 110
      · rw [if_pos c2]
        by_cases c3 : S.1 215 (f + 2) = 116
        · rw [if_pos c3, hs, c1, c2, c3]; rfl
        · rw [if_neg c3]; exact hno (by rw [hs]; intro h; simp only [List.cons.injEq] at h; exact c3 h.2.2.1)
      · rw [if_neg c2]; exact hno (by rw [hs]; intro h; simp only [List.cons.injEq] at h; exact c2 h.2.1)
    · rw [if_neg c1]; exact hno (by rw [hs]; intro h; simp only [List.cons.injEq] at h; exact c1 h.1)
  · rw [if_neg c0]
    exact hno (fun h => c0 (by have := congrArg List.length h; rw [sg_len] at this; simp at this; omega))
theorem m_type (hM : MW S tx) (i : Nat) (hi : i < 2000000) : ja_X13_isType 121 (i : Int) S = some (bi (isT (tx.getD i [])), S) := by
  unfold ja_X13_isType
  rw [hM.1]
  by_cases c : (i : Int) < (tx.length : Int)
  · have hlt : i < tx.length := by omega
    obtain ⟨f, t, e1, e2, e3, e4, e5, e6⟩ := MW_get hM hlt
    rw [if_pos c, m_arr hM hlt, bd_some, jc_121_9, Int.toNat_natCast, e2]
    unfold isT tyB
    cases ha : arE (tx.getD i []) with
    | false =>
      rw [if_pos (show bi false = 0 from rfl), if_pos (in_i (N := 16002) (by omega)), m_ty35 (by omega) e1 (by omega) e4, e5]
      simp only [Bool.false_eq_true, if_false]
    | true =>
      have hl : 2 < (tx.getD i []).length := by unfold arE at ha; rw [decide_eq_true_eq] at ha; exact ha.1
      rw [← e5, sg_len] at hl
      rw [if_neg (show ¬ bi true = 0 by decide), if_pos (in_i (N := 16002) (by omega)), show ((2 : Int)) = ((2 : Nat) : Int) from rfl, w_sub (b := 2) (by omega) (by omega), m_ty35 (by omega) e1 (by omega) (by omega)]
      simp only [if_true]
      rw [← e5, sg_len, sg_take (by omega), show f + (t - f - 2) = t - 2 by omega]
      rfl
  · rw [if_neg c, List.getD_eq_getElem?_getD, List.getElem?_eq_none (by omega)]; rfl
theorem m_ptL {i f t : Nat} (hi : i < 16002) (e2 : S.1 217 i = (t : Int)) (ht : t ≤ 16000) : ∀ (d m p : Nat), p + d = t → d < m → ja_X13_point_L7 m 121 (i : Int) (p : Int) S = some (((p + dot (sg (S.1 215) p t) : Nat) : Int), S) := by
  intro d
  induction d with
  | zero =>
    intro m p h1 h2
    obtain ⟨m, rfl⟩ : ∃ q, m = q + 1 := ⟨m - 1, by omega⟩
    show ja_X13_point_b7 (ja_X13_point_L7 m) 121 _ _ S = _
    unfold ja_X13_point_b7
    rw [if_pos (in_i (N := 16002) (by omega)), jc_121_9, Int.toNat_natCast, e2, if_pos (by omega), sg_nil _ (by omega)]
    rfl
  | succ d ih =>
    intro m p h1 h2
    obtain ⟨m, rfl⟩ : ∃ q, m = q + 1 := ⟨m - 1, by omega⟩
    have ih1 := ih m (p + 1) (by omega) (by omega)
    show ja_X13_point_b7 (ja_X13_point_L7 m) 121 _ _ S = _
    unfold ja_X13_point_b7
    rw [if_pos (in_i (N := 16002) (by omega)), jc_121_9, jc_121_6, Int.toNat_natCast, Int.toNat_natCast, e2, if_neg (by omega), if_pos (in_i (N := 16000) (by omega)), sg_cons _ (show p < t by omega)]
    by_cases q : S.1 215 p = 46
    · rw [if_pos q]
      simp only [dot, List.takeWhile_cons, q, beq_self_eq_true, Bool.not_true, Bool.false_eq_true, if_false, List.length_nil, Nat.add_zero]
    · rw [if_neg q, lt_eq, w_nat1 (by omega), ih1]
      have e : (!(S.1 215 p == 46)) = true := by simp [q]
      simp only [dot, List.takeWhile_cons, e, if_true, List.length_cons]
      rw [show p + 1 + (List.takeWhile (fun c => !c == 46) (sg (S.1 215) (p + 1) t)).length = p + ((List.takeWhile (fun c => !c == 46) (sg (S.1 215) (p + 1) t)).length + 1) by omega]
theorem m_point (hM : MW S tx) {i : Nat} (hi : i < tx.length) {f : Nat} (e1 : S.1 216 i = (f : Int)) : ja_X13_point 121 (i : Int) S = some (((f + dot (tx.getD i []) : Nat) : Int), S) := by
  obtain ⟨f', t, e1', e2, e3, e4, e5, e6⟩ := MW_get hM hi
  obtain rfl : f' = f := by rw [e1'] at e1; omega
  unfold ja_X13_point
  rw [if_pos (in_i (N := 16002) (by omega)), lt_eq, jc_121_8, Int.toNat_natCast, e1', m_ptL (f := f') (by omega) e2 e4 (t - f') nk_big f' (by omega) (by unfold nk_big; omega), e5]
theorem m_ref (hM : MW S tx) (i : Nat) (hi : i < 2000000) : ja_X13_isReference 121 (i : Int) S = some (bi (refQ (tx.getD i [])), S) := by
  unfold ja_X13_isReference
  rw [hM.1]
  by_cases c : (i : Int) < (tx.length : Int)
  · have hlt : i < tx.length := by omega
    obtain ⟨f, t, e1, e2, e3, e4, e5, e6⟩ := MW_get hM hlt
    have hd := dot_le (tx.getD i [])
    have hl : (tx.getD i []).length = t - f := by rw [← e5, sg_len]
    rw [if_pos c, m_point hM hlt e1, bd_some, if_pos (in_i (N := 16002) (by omega)), jc_121_8, jc_121_9, Int.toNat_natCast, e1, m_name2 (by omega) (by omega), bd_some, e2, w_nat1 (a := f + dot (tx.getD i [])) (by omega), m_name1 (by omega) e4, bd_some]
    have t1 : sg (S.1 215) f (f + dot (tx.getD i [])) = (tx.getD i []).take (dot (tx.getD i [])) := by rw [← e5, sg_take (by rw [e5]; omega)]
    rw [t1]
    unfold refQ
    by_cases q1 : nmS ((tx.getD i []).take (dot (tx.getD i []))) = 2
    · rw [decide_eq_true q1, if_neg (show ¬ bi true = 0 by decide)]
      by_cases q0 : dot (tx.getD i []) < (tx.getD i []).length
      · have t2 : sg (S.1 215) (f + dot (tx.getD i []) + 1) t = (tx.getD i []).drop (dot (tx.getD i []) + 1) := by
          rw [← e5, sg_drop (by rw [e5]; omega), Nat.add_assoc]
        rw [t2]
        simp only [q1, true_and]
        cases decide (nmS ((tx.getD i []).drop (dot (tx.getD i []) + 1)) = 1) <;> rfl
      · rw [sg_nil _ (by omega), List.drop_eq_nil_of_le (by omega)]
        simp only [q1, true_and]
        rfl
    · rw [decide_eq_false q1, if_pos (show bi false = 0 from rfl), decide_eq_false (fun h => q1 h.1)]
      rfl
  · rw [if_neg c, List.getD_eq_getElem?_getD, List.getElem?_eq_none (by omega)]; rfl
/-! numbers -/
theorem m_naL {i t : Nat} {q : Int} (hi : i < 16002) (e2 : S.1 217 i = (t : Int)) (ht : t ≤ 16000) : ∀ (d m p k : Nat) (v : Int), p + d = t → d < m → k + d ≤ 10 → 0 ≤ v → v < 10 ^ k → (sg (S.1 215) p t).all dgt = true → ja_X13_number_L47 m 121 (i : Int) q v (p : Int) S = some ((if q = 0 then nv v (sg (S.1 215) p t) else -(nv v (sg (S.1 215) p t)) : Int), S) ∧ 0 ≤ nv v (sg (S.1 215) p t) ∧ nv v (sg (S.1 215) p t) < 10 ^ (k + d) := by
  intro d
  induction d with
  | zero =>
    intro m p k v h1 h2 h3 h4 h5 h6
    obtain ⟨m, rfl⟩ : ∃ q, m = q + 1 := ⟨m - 1, by omega⟩
    have hp := p10 (show k ≤ 10 by omega)
    rw [sg_nil _ (by omega)]
    refine ⟨?_, h4, h5⟩
    show ja_X13_number_b47 (ja_X13_number_L47 m) 121 _ _ _ _ S = _
    unfold ja_X13_number_b47
    rw [if_pos (in_i (N := 16002) (by omega)), jc_121_9, Int.toNat_natCast, e2, if_pos (by omega), nk_W_id (by omega) (by omega)]
    by_cases hq : q = 0
    · rw [if_pos hq, if_pos hq]; rfl
    · rw [if_neg hq, if_neg hq]; rfl
  | succ d ih =>
    intro m p k v h1 h2 h3 h4 h5 h6
    obtain ⟨m, rfl⟩ : ∃ q, m = q + 1 := ⟨m - 1, by omega⟩
    have hp := p10 (show k + 1 ≤ 10 by omega)
    have hps := p10s k
    rw [sg_cons _ (show p < t by omega)] at h6 ⊢
    rw [List.all_cons, Bool.and_eq_true] at h6
    have hd := h6.1
    unfold dgt at hd
    rw [decide_eq_true_eq] at hd
    have ih1 := ih m (p + 1) (k + 1) (v * 10 + (S.1 215 p - 48)) (by omega) (by omega) (by omega) (by omega) (by omega) h6.2
    rw [show k + (d + 1) = k + 1 + d by omega]
    refine ⟨?_, ih1.2⟩
    rw [show nv v (S.1 215 p :: sg (S.1 215) (p + 1) t) = nv (v * 10 + (S.1 215 p - 48)) (sg (S.1 215) (p + 1) t) from rfl, ← ih1.1]
    show ja_X13_number_b47 (ja_X13_number_L47 m) 121 _ _ _ _ S = _
    unfold ja_X13_number_b47
    rw [if_pos (in_i (N := 16002) (by omega)), jc_121_9, jc_121_6, Int.toNat_natCast, Int.toNat_natCast, e2, if_neg (by omega), if_pos (in_i (N := 16000) (by omega)), lt_eq, lt_eq, nk_W_id (z := 10 * v) (by omega) (by omega), nk_W_id (z := 10 * v + S.1 215 p) (by omega) (by omega), nk_W_id (by omega) (by omega), w_nat1 (by omega), show 10 * v + S.1 215 p - 48 = v * 10 + (S.1 215 p - 48) by omega]
theorem m_number (hM : MW S tx) {i : Nat} (hi : i < tx.length) (hl : (nbody (tx.getD i [])).length ≤ 10) (hd : (nbody (tx.getD i [])).all dgt = true) : ja_X13_number 121 (i : Int) S = some (nval (tx.getD i []), S) ∧ -10000000000 < nval (tx.getD i []) ∧ nval (tx.getD i []) < 10000000000 := by
  obtain ⟨f, t, e1, e2, e3, e4, e5, e6⟩ := MW_get hM hi
  unfold ja_X13_number ja_X13_number_b21 nval
  rw [← e5] at hl hd ⊢
  rw [sg_neg e3]
  rw [sg_body e3] at hl hd ⊢
  rw [if_pos (in_i (N := 16002) (by omega)), jc_121_8, jc_121_6, Int.toNat_natCast, e1, if_pos (in_i (N := 16000) (by omega)), Int.toNat_natCast]
  by_cases hc : S.1 215 f = 45
  · simp only [hc, if_true, decide_true] at hl hd ⊢
    rw [sg_len] at hl
    rw [if_neg (by decide), if_pos (in_i (N := 16002) (by omega)), lt_eq, w_nat1 (by omega)]
    obtain ⟨g1, g2, g3⟩ := m_naL (S := S) (i := i) (q := 1) (by omega) e2 e4 (t - (f + 1)) nk_big (f + 1) 0 0 (by omega) (by unfold nk_big; omega) (by omega) (by omega) (by decide) hd
    have := p10 (show 0 + (t - (f + 1)) ≤ 10 by omega)
    rw [g1, if_neg (by decide)]
    exact ⟨rfl, by omega, by omega⟩
  · simp only [hc, if_false, decide_false, Bool.false_eq_true] at hl hd ⊢
    rw [sg_len] at hl
    obtain ⟨g1, g2, g3⟩ := m_naL (S := S) (i := i) (q := 0) (by omega) e2 e4 (t - f) nk_big f 0 0 (by omega) (by unfold nk_big; omega) (by omega) (by omega) (by decide) hd
    have := p10 (show 0 + (t - f) ≤ 10 by omega)
    rw [if_pos trivial, if_pos (in_i (N := 16002) (by omega)), lt_eq, g1, if_pos rfl]
    exact ⟨rfl, by omega, by omega⟩
theorem m_inL {i t : Nat} (hi : i < 16002) (e2 : S.1 217 i = (t : Int)) (ht : t ≤ 16000) : ∀ (d m p : Nat), p + d = t → d < m → ja_X13_isNumber_L73 m 121 (i : Int) (p : Int) S = if (sg (S.1 215) p t).all dgt = true then nk_bd (ja_X13_number 121 (i : Int) S) (fun r3 S4 => if r3 < -2147483648 then some (0, S4) else if 2147483647 < r3 then some (0, S4) else some (1, S4)) else some (0, S) := by
  intro d
  induction d with
  | zero =>
    intro m p h1 h2
    obtain ⟨m, rfl⟩ : ∃ q, m = q + 1 := ⟨m - 1, by omega⟩
    rw [sg_nil _ (by omega), if_pos (show ([] : List Int).all dgt = true from rfl)]
    show ja_X13_isNumber_b73 (ja_X13_isNumber_L73 m) 121 _ _ S = _
    unfold ja_X13_isNumber_b73
    rw [if_pos (in_i (N := 16002) (by omega)), jc_121_9, Int.toNat_natCast, e2, if_pos (by omega)]
  | succ d ih =>
    intro m p h1 h2
    obtain ⟨m, rfl⟩ : ∃ q, m = q + 1 := ⟨m - 1, by omega⟩
    rw [sg_cons _ (show p < t by omega), List.all_cons]
    have ih1 := ih m (p + 1) (by omega) (by omega)
    show ja_X13_isNumber_b73 (ja_X13_isNumber_L73 m) 121 _ _ S = _
    unfold ja_X13_isNumber_b73 dgt
    rw [if_pos (in_i (N := 16002) (by omega)), jc_121_9, jc_121_6, Int.toNat_natCast, Int.toNat_natCast, e2, if_neg (by omega), if_pos (in_i (N := 16000) (by omega))]
    by_cases q1 : S.1 215 p < 48
    · rw [if_pos q1, decide_eq_false (by omega)]; rfl
    · rw [if_neg q1]
      by_cases q2 : S.1 215 p ≤ 57
      · rw [if_pos q2, lt_eq, w_nat1 (by omega), ih1, decide_eq_true (by omega)]; rfl
      · rw [if_neg q2, decide_eq_false (by omega)]; rfl
theorem m_isnum (hM : MW S tx) (i : Nat) (hi : i < 2000000) : ja_X13_isNumber 121 (i : Int) S = some (bi (isNum (tx.getD i [])), S) := by
  unfold ja_X13_isNumber
  rw [hM.1]
  by_cases c : (i : Int) < (tx.length : Int)
  · have hlt : i < tx.length := by omega
    obtain ⟨f, t, e1, e2, e3, e4, e5, e6⟩ := MW_get hM hlt
    rw [if_pos c, if_pos (in_i (N := 16002) (by omega)), jc_121_8, jc_121_6, Int.toNat_natCast, e1, if_pos (in_i (N := 16000) (by omega)), Int.toNat_natCast, w_nat1 (by omega)]
    obtain ⟨b, hb1, hb2, hb3⟩ : ∃ b : Nat, f ≤ b ∧ nbody (tx.getD i []) = sg (S.1 215) b t ∧ (if S.1 215 f = 45 then ja_X13_isNumber_b43 121 (i : Int) ((f + 1 : Nat) : Int) S else ja_X13_isNumber_b43 121 (i : Int) (f : Int) S) = ja_X13_isNumber_b43 121 (i : Int) (b : Int) S ∧ b ≤ t := by
      rw [← e5, sg_body e3]
      by_cases hc : S.1 215 f = 45
      · rw [if_pos hc, if_pos hc]; exact ⟨f + 1, by omega, rfl, rfl, by omega⟩
      · rw [if_neg hc, if_neg hc]; exact ⟨f, by omega, rfl, rfl, by omega⟩
    rw [hb3.1]
    unfold ja_X13_isNumber_b43 isNum
    rw [if_pos (in_i (N := 16002) (by omega)), jc_121_9, Int.toNat_natCast, e2, w_sub hb3.2 (by omega), hb2, sg_len]
    by_cases c1 : t - b < 1
    · rw [if_pos (by omega), decide_eq_false (by omega)]; rfl
    · rw [if_neg (by omega)]
      by_cases c2 : t - b ≤ 10
      · rw [if_pos (by omega), m_inL (by omega) e2 e4 (t - b) nk_big b (by omega) (by unfold nk_big; omega)]
        by_cases c3 : (sg (S.1 215) b t).all dgt = true
        · obtain ⟨g1, g2, g3⟩ := m_number hM hlt (by rw [hb2, sg_len]; exact c2) (by rw [hb2]; exact c3)
          rw [if_pos c3, g1, bd_some]
          by_cases r1 : nval (tx.getD i []) < -2147483648
          · rw [if_pos r1, decide_eq_false (fun h => by omega)]; rfl
          · rw [if_neg r1]
            by_cases r2 : 2147483647 < nval (tx.getD i [])
            · rw [if_pos r2, decide_eq_false (fun h => by omega)]; rfl
            · rw [if_neg r2, decide_eq_true ⟨by omega, c2, c3, by omega, by omega⟩]; rfl
        · rw [if_neg c3, decide_eq_false (fun h => c3 h.2.2.1)]; rfl
      · rw [if_neg (by omega), decide_eq_false (by omega)]; rfl
  · rw [if_neg c, List.getD_eq_getElem?_getD, List.getElem?_eq_none (by omega)]; rfl
end MWT
