/-! Names of classes: one function for both sides; the reference's look. -/
theorem amx_app {l : List Int} : ∀ (ws vs : List (List Int)) (j : Int), 0 ≤ j → amx l (ws ++ vs) j = if amx l ws j < 0 then amx l vs (j + ws.length) else amx l ws j := by
  intro ws
  induction ws with
  | nil => intro vs j hj; rw [List.nil_append, amx, if_pos (by omega)]; simp
  | cons w ws ih =>
    intro vs j hj
    rw [List.cons_append, amx, amx]
    by_cases q : l = w
    · rw [if_pos q, if_pos q, if_neg (by omega)]
    · rw [if_neg q, if_neg q, ih vs (j + 1) (by omega), List.length_cons]
      rw [show j + 1 + (ws.length : Int) = j + ((ws.length + 1 : Nat) : Int) by omega]
theorem getD_app {α : Type} (l : List α) (x z : α) (j : Nat) (h : j < l.length) : (l ++ [x]).getD j z = l.getD j z := by
  rw [List.getD_eq_getElem?_getD, List.getD_eq_getElem?_getD, List.getElem?_append_left h]
theorem getD_end {α : Type} (l : List α) (x z : α) : (l ++ [x]).getD l.length z = x := by
  rw [List.getD_eq_getElem?_getD, List.getElem?_append_right (Nat.le_refl _)]
  simp
/-- the eight classes that every text knows -/
def kC8 : List (List Int) := (fx.drop 60).take 8
theorem kC8_len : kC8.length = 8 := by decide
/-- the names of classes in their order, with the class above; or the token where a name is wrong -/
def fCls (tx : List (List Int)) : Nat → Nat → List (List Int) → List Int → Option Nat × List (List Int) × List Int
  | 0, _, ns, us => (none, ns, us)
  | d + 1, a, ns, us => if tx.length ≤ a then (none, ns, us)
    else if 0 ≤ amx (tx.getD (a + 1) []) ns 0 ∨ 32 ≤ ns.length then (some (a + 1), ns, us)
    else if amx (tx.getD (a + 3) []) ns 0 < 0 then (some (a + 3), ns, us)
    else fCls tx d (fMembers tx 20000 20000 (a + 5)).2 (ns ++ [tx.getD (a + 1) []]) (us ++ [amx (tx.getD (a + 3) []) ns 0])
/-- where the k-th class of a text begins -/
def cAt (tx : List (List Int)) : Nat → Nat
  | 0 => 0
  | k + 1 => (fMembers tx 20000 20000 (cAt tx k + 5)).2
section MNA
variable {S : nk_S} {tx : List (List Int)} {P : Nat}
theorem jc_P8 (hP : P = 122 ∨ P = 168) : ja_c P 8 = P + 1 := by rcases hP with rfl | rfl <;> rfl
theorem MW_c {S' : nk_S} (h1 : S'.1 121 10 = S.1 121 10) (h2 : S'.1 216 = S.1 216) (h3 : S'.1 217 = S.1 217) (h4 : S'.1 215 = S.1 215) (h : MW S tx) : MW S' tx := by
  obtain ⟨a1, a2, a3⟩ := h
  exact ⟨h1.trans a1, a2, by rw [h2, h3, h4]; exact a3⟩
/-- what the reference knows of the classes so far -/
def rC (S : nk_S) (tx : List (List Int)) (P : Nat) (ns : List (List Int)) (us : List Int) : Prop := S.1 P 0 = ((ns.length - 8 : Nat) : Int) ∧ ns.length ≤ 32 ∧ us.length = ns.length ∧ (∀ j, j < ns.length → S.1 (P + 1) j = us.getD j 0) ∧ (∃ os, ns = kC8 ++ os) ∧ ∀ j, 8 ≤ j → j < ns.length → ∃ q : Nat, S.1 218 j = (q : Int) ∧ tx[q]? = some (ns.getD j []) ∧ q = cAt tx (j - 8) + 1
theorem rC_len {ns : List (List Int)} {us : List Int} (h : rC S tx P ns us) : 8 ≤ ns.length := by
  obtain ⟨os, e⟩ := h.2.2.2.2.1
  rw [e, List.length_append, kC8_len]
  omega
theorem m_classL (hM : MW S tx) (hP : P = 122 ∨ P = 168) {ns : List (List Int)} {us : List Int} (hC : rC S tx P ns us) {f t : Nat} (hft : f ≤ t) (ht : t ≤ 16000) : ∀ (e j m : Nat), j + e = ns.length → 8 ≤ j → e < m → ja_X13_classOf_L23 m 121 P (f : Int) (t : Int) (j : Int) S = some (amx (sg (S.1 215) f t) (ns.drop j) (j : Int), S) := by
  have h8 := rC_len hC
  obtain ⟨c1, c2, c3, c4, c5, c6⟩ := hC
  have hcnt : ja_X13_classCount 121 P S = some ((ns.length : Int), S) := by
    unfold ja_X13_classCount
    rw [c1, show (8 : Int) + ((ns.length - 8 : Nat) : Int) = (ns.length : Int) by omega, w_n0 (by omega)]
  intro e
  induction e with
  | zero =>
    intro j m h1 h2 h3
    obtain ⟨m, rfl⟩ : ∃ q, m = q + 1 := ⟨m - 1, by omega⟩
    show ja_X13_classOf_b23 (ja_X13_classOf_L23 m) 121 P (f : Int) (t : Int) (j : Int) S = _
    unfold ja_X13_classOf_b23
    rw [hcnt, bd_some, if_pos (by omega), List.drop_eq_nil_of_le (by omega)]
    rfl
  | succ e ih =>
    intro j m h1 h2 h3
    obtain ⟨m, rfl⟩ : ∃ q, m = q + 1 := ⟨m - 1, by omega⟩
    show ja_X13_classOf_b23 (ja_X13_classOf_L23 m) 121 P (f : Int) (t : Int) (j : Int) S = _
    obtain ⟨q, q1, q2, -⟩ := c6 j h2 (by omega)
    have hq : q < tx.length := by
      by_cases c : q < tx.length
      · exact c
      · rw [List.getElem?_eq_none (by omega)] at q2; cases q2
    obtain ⟨a1, a2, a3⟩ := hM
    obtain ⟨g, u, e1, e2, e3, e4, e5⟩ := a3 q _ q2
    unfold ja_X13_classOf_b23
    rw [hcnt, bd_some, if_neg (by omega), if_pos (in_i (N := 32) (by omega)), jc_121_13, Int.toNat_natCast, q1, if_pos (in_i (N := 16002) (by omega)), jc_121_8, jc_121_9, Int.toNat_natCast, e1, e2, m_same hft ht (by omega) e4, bd_some, e5]
    rw [List.drop_eq_getElem_cons (show j < ns.length by omega), amx]
    have hg : ns.getD j [] = ns[j]'(by omega) := by rw [List.getD_eq_getElem?_getD, List.getElem?_eq_getElem (by omega)]; rfl
    rw [hg]
    by_cases c : sg (S.1 215) f t = ns[j]'(by omega)
    · rw [if_pos c, decide_eq_true c, if_neg (show ¬ bi true = 0 by decide)]
    · rw [if_neg c, decide_eq_false c, if_pos (show bi false = 0 from rfl), lt_eq, w_nat1 (by omega)]
      have := ih (j + 1) m (by omega) (by omega) (by omega)
      rw [this]
      rfl
theorem m_classOf (hM : MW S tx) (hP : P = 122 ∨ P = 168) {ns : List (List Int)} {us : List Int} (hC : rC S tx P ns us) {f t : Nat} (hft : f ≤ t) (ht : t ≤ 16000) : ja_X13_classOf 121 P (f : Int) (t : Int) S = some (amx (sg (S.1 215) f t) ns 0, S) := by
  have h8 := rC_len hC
  obtain ⟨os, hos⟩ := hC.2.2.2.2.1
  have hl := hC.2.1
  have hd : ns.drop 8 = os := by rw [hos]; exact List.drop_left' kC8_len
  unfold ja_X13_classOf
  rw [m_among ok_t.2.2.2.2.2.2.2.2.2.2.2.2.2.2.2.1 hft ht tx_t.2.2.2.2.2.2.2.2.2.2.2.2.2.2.2.2 fx_sp.2, bd_some]
  have ha := amx_app (l := sg (S.1 215) f t) kC8 os 0 (by decide)
  rw [kC8_len, ← hos] at ha
  rw [ha]
  unfold kC8
  by_cases c : amx (sg (S.1 215) f t) ((fx.drop 60).take 8) 0 < 0
  · rw [if_pos c, if_pos c]
    obtain ⟨m, hm⟩ := big_ge 40 (by decide)
    have := m_classL hM hP hC hft ht (ns.length - 8) 8 nk_big (by omega) (by omega) (by omega)
    rw [hd] at this
    exact this
  · rw [if_neg c, if_neg c]
theorem m_classTok (hM : MW S tx) (hP : P = 122 ∨ P = 168) {ns : List (List Int)} {us : List Int} (hC : rC S tx P ns us) {i : Nat} (hi : i < tx.length) : ja_X13_classOfToken 121 P (i : Int) S = some (amx (tx.getD i []) ns 0, S) := by
  have hT := hM.2.1
  obtain ⟨f, t, e1, e2, e3, e4, e5⟩ := hM.2.2 i (tx.getD i []) (by rw [List.getD_eq_getElem?_getD, List.getElem?_eq_getElem hi]; rfl)
  unfold ja_X13_classOfToken
  rw [if_pos (in_i (N := 16002) (by omega)), jc_121_8, jc_121_9, Int.toNat_natCast, e1, e2, m_classOf hM hP hC (by omega) e4, bd_some, e5]
/-- the answer of the reference's look at the names of classes -/
def mcA (r : Option Nat) (o : Option (Int × nk_S)) (S' : nk_S) : Prop := match r with
  | none => o = some (1, S')
  | some y => o = some (0, S') ∧ S'.1 121 12 = (y : Int)
def mcF (P : Nat) (S S' : nk_S) : Prop := S'.2 = S.2 ∧ (∀ a, a ≠ 121 → a ≠ 218 → a ≠ P → a ≠ P + 1 → S'.1 a = S.1 a) ∧ (∀ i, i ≠ 12 → S'.1 121 i = S.1 121 i) ∧ ∀ i, i ≠ 0 → S'.1 P i = S.1 P i
theorem mcF_trans {S1 S2 S3 : nk_S} (h : mcF P S1 S2) (h2 : mcF P S2 S3) : mcF P S1 S3 := by
  obtain ⟨a1, a2, a3, a4⟩ := h
  obtain ⟨b1, b2, b3, b4⟩ := h2
  exact ⟨b1.trans a1, fun a x y z w => (b2 a x y z w).trans (a2 a x y z w), fun i x => (b3 i x).trans (a3 i x), fun i x => (b4 i x).trans (a4 i x)⟩
theorem m_clsL (hP : P = 122 ∨ P = 168) : ∀ (d a m : Nat) (ns : List (List Int)) (us : List Int) (S : nk_S), MW S tx → rC S tx P ns us → (fProg tx 20000 d a).1 = true → a = cAt tx (ns.length - 8) → a ≤ tx.length → d ≤ m → ∃ S', mcA (fCls tx d a ns us).1 (ja_X13_classNames_L45 m 121 P (a : Int) S) S' ∧ MW S' tx ∧ rC S' tx P (fCls tx d a ns us).2.1 (fCls tx d a ns us).2.2 ∧ mcF P S S' := by
  intro d
  induction d with
  | zero => intro a m ns us S hM hC h; cases h
  | succ d ih =>
    intro a m ns us S hM hC h hat ha hd
    obtain ⟨m, rfl⟩ : ∃ q, m = q + 1 := ⟨m - 1, by omega⟩
    have hT := hM.2.1
    have h10 := hM.1
    rw [fCls]
    show ∃ S', mcA _ (ja_X13_classNames_b45 (ja_X13_classNames_L45 m) 121 P (a : Int) S) S' ∧ _
    unfold ja_X13_classNames_b45
    rw [h10]
    by_cases q : tx.length ≤ a
    · rw [if_pos q, if_pos (show (tx.length : Int) ≤ (a : Int) by omega)]
      exact ⟨S, rfl, hM, hC, rfl, fun _ _ _ _ _ => rfl, fun _ _ => rfl, fun _ _ => rfl⟩
    · rw [if_neg q, if_neg (show ¬ (tx.length : Int) ≤ (a : Int) by omega)]
      obtain ⟨k1, k2, k3, k4, k5, k6, k7⟩ := cls_kind h (by omega)
      have hl4 := fW_T k5
      have hl := rC_len hC
      have w1 : nk_w ((a : Int) + 1) = ((a + 1 : Nat) : Int) := w_nat1 (by omega)
      have w3 : nk_w ((a : Int) + 3) = ((a + 3 : Nat) : Int) := by
        rw [show (a : Int) + 3 = ((a + 3 : Nat) : Int) by omega]
        exact w_n0 (by omega)
      have hwr : ∀ y : Nat, ∃ S', ja_X13_wrong 121 (y : Int) S = some (0, S') ∧ S'.1 121 12 = (y : Int) ∧ MW S' tx ∧ rC S' tx P ns us ∧ mcF P S S' := by
        intro y
        refine ⟨nk_wi S 121 12 (y : Int), rfl, by simp only [wi_v, and_self, if_true], MW_c (by simp +decide only [wi_v, if_false]) (wi_n (by decide)) (wi_n (by decide)) (wi_n (by decide)) hM, ?_, rfl, fun b x _ _ _ => wi_n x, fun i x => by simp only [wi_v, x, and_false, if_false], fun i _ => ?_⟩
        · obtain ⟨c1, c2, c3, c4, c5, c6⟩ := hC
          refine ⟨?_, c2, c3, ?_, c5, ?_⟩
          · rw [wi_n (by rcases hP with rfl | rfl <;> decide)]; exact c1
          · rw [wi_n (by rcases hP with rfl | rfl <;> decide)]; exact c4
          · rw [wi_n (by decide)]; exact c6
        · rw [wi_n (by rcases hP with rfl | rfl <;> decide)]
      have h73 : ∃ S', ja_X13_classNames_b73 121 (a : Int) S = some (0, S') ∧ S'.1 121 12 = ((a + 1 : Nat) : Int) ∧ MW S' tx ∧ rC S' tx P ns us ∧ mcF P S S' := by
        obtain ⟨S', z1, z2⟩ := hwr (a + 1)
        refine ⟨S', ?_, z2⟩
        unfold ja_X13_classNames_b73
        rw [w1, z1, bd_some, if_pos (Or.inl rfl)]
      rw [w1, w3, m_classTok hM hP hC (i := a + 1) (by omega), bd_some]
      clear w1 w3
      by_cases q1 : 0 ≤ amx (tx.getD (a + 1) []) ns 0
      · rw [if_pos q1, if_pos (Or.inl q1)]
        obtain ⟨S', z1, z2, z3⟩ := h73
        exact ⟨S', ⟨z1, z2⟩, z3⟩
      · rw [if_neg q1]
        have c1 := hC.1
        have c2 := hC.2.1
        by_cases q2 : 32 ≤ ns.length
        · rw [if_pos (Or.inr q2), if_pos (show S.1 P 0 = 24 by rw [c1]; omega)]
          obtain ⟨S', z1, z2, z3⟩ := h73
          exact ⟨S', ⟨z1, z2⟩, z3⟩
        · rw [if_neg (show ¬ (0 ≤ amx (tx.getD (a + 1) []) ns 0 ∨ 32 ≤ ns.length) from fun e => e.elim q1 q2), if_neg (show ¬ S.1 P 0 = 24 by rw [c1]; omega), m_classTok hM hP hC (i := a + 3) (by omega), bd_some]
          by_cases q3 : amx (tx.getD (a + 3) []) ns 0 < 0
          · rw [if_pos q3, if_neg (by omega)]
            obtain ⟨S', z1, z2, z3⟩ := hwr (a + 3)
            refine ⟨S', ⟨?_, z2⟩, z3⟩
            rw [z1, bd_some, if_pos (Or.inl rfl)]
          · rw [if_neg q3, if_pos (show 0 ≤ amx (tx.getD (a + 3) []) ns 0 by omega), c1]
            have hin : (0 : Int) ≤ (ns.length : Int) ∧ (ns.length : Int) < 32 := in_i (N := 32) (by omega)
            have w8 : nk_w (8 + ((ns.length - 8 : Nat) : Int)) = (ns.length : Int) := by
              rw [show (8 : Int) + ((ns.length - 8 : Nat) : Int) = (ns.length : Int) by omega]
              exact w_n0 (by omega)
            rw [w8, if_pos hin, lt_eq, jc_121_13, Int.toNat_natCast]
            obtain ⟨S9, hS9⟩ : ∃ S9, S9 = nk_wi S 218 ns.length ((a + 1 : Nat) : Int) := ⟨_, rfl⟩
            have p9 : ∀ b, b ≠ 218 → S9.1 b = S.1 b := fun b hb => by rw [hS9]; exact wi_n hb
            have e9 : S9.1 P 0 = ((ns.length - 8 : Nat) : Int) := by rw [p9 P (by rcases hP with rfl | rfl <;> decide)]; exact c1
            rw [← hS9, e9, w8, if_pos hin, lt_eq, jc_P8 hP, Int.toNat_natCast]
            clear w8
            obtain ⟨S13, hS13⟩ : ∃ S13, S13 = nk_wi S9 (P + 1) ns.length (amx (tx.getD (a + 3) []) ns 0) := ⟨_, rfl⟩
            have p13 : ∀ b, b ≠ P + 1 → S13.1 b = S9.1 b := fun b hb => by rw [hS13]; exact wi_n hb
            have e13 : S13.1 P 0 = ((ns.length - 8 : Nat) : Int) := by rw [p13 P (by omega)]; exact e9
            rw [← hS13, lt_eq, e13, w_nat1 (by omega), show ns.length - 8 + 1 = ns.length + 1 - 8 by omega]
            obtain ⟨S15, hS15⟩ : ∃ S15, S15 = nk_wi S13 P 0 ((ns.length + 1 - 8 : Nat) : Int) := ⟨_, rfl⟩
            have p15 : ∀ b, b ≠ P → S15.1 b = S13.1 b := fun b hb => by rw [hS15]; exact wi_n hb
            have pall : ∀ b, b ≠ 218 → b ≠ P → b ≠ P + 1 → S15.1 b = S.1 b := fun b x y z => by rw [p15 b y, p13 b z, p9 b x]
            have hPn : 121 ≠ P ∧ 215 ≠ P ∧ 216 ≠ P ∧ 217 ≠ P ∧ 218 ≠ P ∧ 121 ≠ P + 1 ∧ 215 ≠ P + 1 ∧ 216 ≠ P + 1 ∧ 217 ≠ P + 1 ∧ 218 ≠ P + 1 := by rcases hP with rfl | rfl <;> decide
            obtain ⟨x1, x2, x3, x4, x5, y1, y2, y3, y4, y5⟩ := hPn
            have hM15 : MW S15 tx := MW_c (by rw [pall 121 (by decide) x1 y1]) (pall 216 (by decide) x3 y3) (pall 217 (by decide) x4 y4) (pall 215 (by decide) x2 y2) hM
            rw [← hS15, m_behC hM15 hT k1 k2 k3 k4 k5 k6, bd_some]
            have hC15 : rC S15 tx P (ns ++ [tx.getD (a + 1) []]) (us ++ [amx (tx.getD (a + 3) []) ns 0]) := by
              obtain ⟨-, -, c3, c4, ⟨os, c5⟩, c6⟩ := hC
              refine ⟨?_, by simp only [List.length_append, List.length_cons, List.length_nil]; omega, by simp only [List.length_append, List.length_cons, List.length_nil]; omega, fun j hj => ?_, ⟨os ++ [tx.getD (a + 1) []], by rw [c5, List.append_assoc]⟩, fun j hj1 hj2 => ?_⟩
              · rw [hS15]; simp only [wi_v, and_self, if_true, List.length_append, List.length_cons, List.length_nil]
              · simp only [List.length_append, List.length_cons, List.length_nil] at hj
                rw [p15 (P + 1) (by omega), hS13]
                simp only [wi_v, true_and]
                by_cases c : j = ns.length
                · rw [if_pos c, c, ← c3, getD_end]
                · rw [if_neg c, p9 (P + 1) (by omega), c4 j (by omega), getD_app _ _ _ _ (by omega)]
              · simp only [List.length_append, List.length_cons, List.length_nil] at hj2
                rw [p15 218 x5, p13 218 y5, hS9]
                simp only [wi_v, true_and]
                by_cases c : j = ns.length
                · rw [if_pos c, c]
                  refine ⟨a + 1, rfl, ?_, by rw [hat]⟩
                  rw [List.getD_eq_getElem?_getD (l := ns ++ [tx.getD (a + 1) []]), List.getElem?_append_right (by omega), List.getD_eq_getElem?_getD, List.getElem?_eq_getElem (by omega)]
                  simp
                · rw [if_neg c]
                  obtain ⟨z, z1, z2, z3⟩ := c6 j hj1 (by omega)
                  refine ⟨z, z1, ?_, z3⟩
                  rw [z2, List.getD_eq_getElem?_getD, List.getD_eq_getElem?_getD, List.getElem?_append_left (by omega)]
            have hE := fMembers_ok k6
            obtain ⟨S', i1, i2, i3, i4⟩ := ih (fMembers tx 20000 20000 (a + 5)).2 m _ _ S15 hM15 hC15 k7 (by rw [List.length_append, List.length_cons, List.length_nil, show ns.length + (0 + 1) - 8 = (ns.length - 8) + 1 by omega, cAt, ← hat]) hE.2 (by omega)
            refine ⟨S', i1, i2, i3, mcF_trans ⟨?_, ?_, ?_, ?_⟩ i4⟩
            · rw [hS15, hS13, hS9]; rfl
            · intro b _ z1 z2 z3; exact pall b z1 z2 z3
            · intro i _; rw [pall 121 (by decide) x1 y1]
            · intro i hi; rw [hS15]; simp only [wi_v, hi, and_false, if_false]; rw [p13 P (by omega), p9 P (fun e => x5 e.symm)]
end MNA
