/-! The class looks at tokens and at the form. -/
/-- the class's view of tokens: token i is the text tx[i] -/
def CF (S : nk_S) (tx : List (List Int)) (c : Nat) : Prop := S.1 2 5 = (c : Int) ∧ 70 ≤ c ∧ c ≤ 12288 ∧ S.1 2 4 = (tx.length : Int) ∧ tx.length ≤ 16000 ∧ (∀ (i : Nat) (l : List Int), tx[i]? = some l → ∃ w : Nat, w < c ∧ S.1 4 i = (w : Int) ∧ wd S w = l) ∧ (∀ w w', w < c → w' < c → wd S w = wd S w' → w = w') ∧ (∀ w, w < 70 → wd S w = fx.getD w []) ∧ ∀ v, v < c → S.1 9 v = shp (wd S v)
def ca (S : nk_S) (a : Nat) : nk_S := nk_wi S 85 2 (a : Int)
theorem ca_at (S : nk_S) (a : Nat) : (ca S a).1 85 2 = (a : Int) := by unfold ca; simp only [wi_v, and_self, if_true]
theorem ca_ca (S : nk_S) (a b : Nat) : nk_wi (ca S a) 85 2 (b : Int) = ca S b := by
  unfold ca nk_wi
  refine Prod.ext ?_ rfl
  funext x i
  dsimp only
  split <;> rfl
theorem ca_n (S : nk_S) (a : Nat) {x : Nat} (h : x ≠ 85) : (ca S a).1 x = S.1 x := wi_n h
def cR (S : nk_S) (r : Bool × Nat) : Option (Int × nk_S) := some (bi r.1, ca S r.2)
/-- the word's number of a token; -1 behind the last -/
def cw (S : nk_S) (tx : List (List Int)) (a : Nat) : Int := if a < tx.length then S.1 4 a else -1
section CFM
variable {S : nk_S} {tx : List (List Int)} {c : Nat}
theorem c_at (hC : CF S tx c) (a b : Nat) : ja_X10_at 2 (b : Int) (ca S a) = some (cw S tx b, ca S a) := by
  obtain ⟨h1, h2, h3, h4, h5, -⟩ := hC
  unfold ja_X10_at cw
  rw [if_neg (by omega), ca_n S a (by decide), h4]
  by_cases q : (tx.length : Int) ≤ (b : Int)
  · rw [if_pos q, if_neg (by omega)]
  · rw [if_neg q, if_pos (in_i (N := 16000) (by omega)), jc_2_3, Int.toNat_natCast, ca_n S a (by decide), if_pos (by omega)]
theorem cw_some (hC : CF S tx c) {a : Nat} (ha : a < tx.length) : ∃ w : Nat, w < c ∧ cw S tx a = (w : Int) ∧ wd S w = tx.getD a [] ∧ tx[a]? = some (wd S w) := by
  obtain ⟨-, -, -, -, -, h6, -⟩ := hC
  obtain ⟨w, w1, w2, w3⟩ := h6 a _ (List.getElem?_eq_getElem ha)
  refine ⟨w, w1, ?_, ?_, ?_⟩
  · unfold cw; rw [if_pos ha]; exact w2
  · rw [w3, List.getD_eq_getElem?_getD, List.getElem?_eq_getElem ha, Option.getD_some]
  · rw [w3]; exact List.getElem?_eq_getElem ha
theorem cw_iff (hC : CF S tx c) {w : Nat} (hw : w < 70) (a : Nat) : cw S tx a = (w : Int) ↔ fW tx w a = true := by
  unfold fW
  rw [decide_eq_true_eq]
  by_cases ha : a < tx.length
  · obtain ⟨v, v1, v2, v3, v4⟩ := cw_some hC ha
    obtain ⟨-, h2, -, -, -, -, h7, h8, -⟩ := hC
    rw [v2, v4, Option.some.injEq, ← h8 w hw]
    constructor
    · intro e; rw [show v = w by omega]
    · intro e; rw [h7 v w v1 (by omega) e]
  · unfold cw
    rw [if_neg ha, List.getElem?_eq_none (by omega)]
    constructor
    · intro e; omega
    · intro e; cases e
theorem c_step {a : Nat} (b : Bool) (ha : a < 2000000) : ja_X6_step 85 (bi b) (ca S a) = cR S (tk b a) := by
  unfold ja_X6_step
  cases b with
  | false => rw [if_pos (show bi false = 0 from rfl), if_pos (show bi false = 0 ∨ bi false = 1 from Or.inl rfl)]; rfl
  | true => rw [if_neg (show ¬ bi true = 0 by decide), lt_eq, ca_at, w_nat1 (by omega), ca_ca, if_pos (show bi true = 0 ∨ bi true = 1 from Or.inr rfl)]; rfl
theorem c_word (hC : CF S tx c) {w : Nat} (hw : w < 70) (a : Nat) (ha : a < 2000000) : ja_X6_takesWord 85 (w : Int) (ca S a) = cR S (tk (fW tx w a) a) := by
  have hb : ∀ b : Bool, ja_X6_takesWord_b21 85 (bi b) (ca S a) = cR S (tk b a) := by
    intro b
    unfold ja_X6_takesWord_b21
    rw [c_step b ha]
    cases b <;> rfl
  unfold ja_X6_takesWord
  rw [jc_85_0, ca_at, c_at hC, bd_some]
  have hi := cw_iff hC hw a
  cases hf : fW tx w a with
  | true => rw [if_pos (hi.mpr hf)]; exact hb true
  | false => rw [if_neg (fun e => by have := hi.mp e; rw [hf] at this; cases this)]; exact hb false
theorem c_has (hC : CF S tx c) (a b : Nat) (s : Int) (hs : 1 ≤ s) : ja_X10_hasShape 2 (cw S tx b) s (ca S a) = some (bi (decide (shp (tx.getD b []) = s)), ca S a) := by
  unfold ja_X10_hasShape
  by_cases hb : b < tx.length
  · obtain ⟨v, v1, v2, v3, v4⟩ := cw_some hC hb
    obtain ⟨h1, h2, h3, -, -, -, -, -, h9⟩ := hC
    rw [v2, if_neg (by omega), ca_n S a (by decide), h1, if_neg (by omega), if_pos (in_i (N := 12288) (by omega)), jc_2_12, Int.toNat_natCast, ca_n S a (by decide), h9 v v1, v3]
    by_cases q : shp (tx.getD b []) = s
    · rw [if_pos q, decide_eq_true q]; rfl
    · rw [if_neg q, decide_eq_false q]; rfl
  · unfold cw
    rw [if_neg hb, if_pos (by decide), List.getD_eq_getElem?_getD, List.getElem?_eq_none (by omega), Option.getD_none, show shp [] = 0 by decide, decide_eq_false (by omega)]
    rfl
theorem c_shape (hC : CF S tx c) (s : Int) (hs : 1 ≤ s) (a : Nat) (ha : a < 2000000) : ja_X6_takesShape 85 s (ca S a) = cR S (tk (decide (shp (tx.getD a []) = s)) a) := by
  unfold ja_X6_takesShape
  rw [jc_85_0, ca_at, c_at hC, bd_some, c_has hC a a s hs, bd_some, c_step _ ha]
  cases decide (shp (tx.getD a []) = s) <;> rfl
theorem c_shapes (a : Nat) : decide (shp (tx.getD a []) = 1) = fN tx a ∧ decide (shp (tx.getD a []) = 2) = fC tx a ∧ decide (shp (tx.getD a []) = 3) = fU tx a ∧ decide (shp (tx.getD a []) = 5) = fR tx a := by
  obtain ⟨e1, e2, e3, e4, e5⟩ := shp_eq (tx.getD a [])
  unfold fN fC fU fR
  refine ⟨decide_eq_decide.mpr e1, decide_eq_decide.mpr e2, ?_, ?_⟩
  · rw [Bool.eq_iff_iff, decide_eq_true_eq]; exact e3
  · rw [Bool.eq_iff_iff, decide_eq_true_eq]; exact e5
theorem c_isType (hC : CF S tx c) (a b : Nat) : ja_X10_isType 2 (cw S tx b) (ca S a) = some (bi (fT tx b), ca S a) := by
  unfold ja_X10_isType
  have i1 := cw_iff hC (w := 52) (by decide) b
  have i2 := cw_iff hC (w := 54) (by decide) b
  have ht := isT_iff (tx.getD b [])
  have hg : ∀ w : Nat, w < 70 → (fW tx w b = true ↔ b < tx.length ∧ tx.getD b [] = fx.getD w []) := by
    intro w hw
    unfold fW
    rw [decide_eq_true_eq]
    by_cases hb : b < tx.length
    · have e : tx.getD b [] = tx[b] := by rw [List.getD_eq_getElem?_getD, List.getElem?_eq_getElem hb]; rfl
      rw [List.getElem?_eq_getElem hb, Option.some.injEq, e]
      exact ⟨fun h => ⟨hb, h⟩, fun h => h.2⟩
    · rw [List.getElem?_eq_none (by omega)]
      exact ⟨fun h => (by cases h), fun h => absurd h.1 hb⟩
  have hf : ∀ v : Bool, (fT tx b = true ↔ v = true) → fT tx b = v := fun v h => by rw [Bool.eq_iff_iff]; exact h
  have hlen : ∀ w : Nat, w < 70 → tx.getD b [] = fx.getD w [] → b < tx.length := by
    intro w hw e
    by_cases hb : b < tx.length
    · exact hb
    · rw [List.getD_eq_getElem?_getD, List.getElem?_eq_none (by omega), Option.getD_none] at e
      have := fx_len w hw
      rw [← e] at this
      simp at this
  rw [show ((52 : Int)) = ((52 : Nat) : Int) from rfl, show ((54 : Int)) = ((54 : Nat) : Int) from rfl]
  by_cases q1 : cw S tx b = ((52 : Nat) : Int)
  · rw [if_pos q1, hf true ⟨fun _ => rfl, fun _ => ht.mpr (Or.inl ((hg 52 (by decide)).mp (i1.mp q1)).2)⟩]; rfl
  · rw [if_neg q1]
    by_cases q2 : cw S tx b = ((54 : Nat) : Int)
    · rw [if_pos q2, hf true ⟨fun _ => rfl, fun _ => ht.mpr (Or.inr (Or.inl ((hg 54 (by decide)).mp (i2.mp q2)).2))⟩]; rfl
    · rw [if_neg q2, c_has hC a b 2 (by decide), bd_some]
      have n1 : ¬ tx.getD b [] = fx.getD 52 [] := fun e => q1 (i1.mpr ((hg 52 (by decide)).mpr ⟨hlen 52 (by decide) e, e⟩))
      have n2 : ¬ tx.getD b [] = fx.getD 54 [] := fun e => q2 (i2.mpr ((hg 54 (by decide)).mpr ⟨hlen 54 (by decide) e, e⟩))
      by_cases q3 : shp (tx.getD b []) = 2
      · rw [decide_eq_true q3, if_neg (show ¬ bi true = 0 by decide), hf true ⟨fun _ => rfl, fun _ => ht.mpr (Or.inr (Or.inr (Or.inl q3)))⟩]; rfl
      · rw [decide_eq_false q3, if_pos (show bi false = 0 from rfl), c_has hC a b 4 (by decide), bd_some]
        by_cases q4 : shp (tx.getD b []) = 4
        · rw [decide_eq_true q4, if_neg (show ¬ bi true = 0 by decide), hf true ⟨fun _ => rfl, fun _ => ht.mpr (Or.inr (Or.inr (Or.inr q4)))⟩]; rfl
        · rw [decide_eq_false q4, if_pos (show bi false = 0 from rfl), hf false ⟨fun h => by
            rcases ht.mp h with h | h | h | h
            · exact absurd h n1
            · exact absurd h n2
            · exact absurd h q3
            · exact absurd h q4, fun h => by cases h⟩]
          rfl
theorem c_type (hC : CF S tx c) (a : Nat) (ha : a < 2000000) : ja_X6_takesType 85 (ca S a) = cR S (tk (fT tx a) a) := by
  unfold ja_X6_takesType
  rw [jc_85_0, ca_at, c_at hC, bd_some, c_isType hC a a, bd_some, c_step _ ha]
  cases fT tx a <;> rfl
/-- a token is taken; then it goes on -/
theorem c_sq {a : Nat} {b : Bool} {o : Option (Int × nk_S)} {K F : nk_S → Option (Int × nk_S)} {R : Bool × Nat → Option (Int × nk_S)} {k : Nat → Bool × Nat} (ho : o = cR S (tk b a)) (hF : F (ca S a) = R (false, a)) (hK : b = true → K (ca S (a + 1)) = R (k (a + 1))) : (nk_bd o fun r S2 => if r = 0 then F S2 else K S2) = R (sq (tk b a) k) := by
  rw [ho]
  cases b with
  | false => exact hF
  | true => exact hK rfl
end CFM
