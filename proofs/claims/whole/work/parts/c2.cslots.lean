/-! The class's slots: a value and its facts as longs. -/
def oN : Option Nat → Nat
  | none => 0
  | some k => k + 1
/-- the bits of a slot's facts -/
def fBt (w : jW) : Nat → Bool := fun j => if j < 48 then w.2.2.2.2 j else if j < 52 then (oN w.2.2.2.1).testBit (j - 48) else if j = 52 then decide (w.1 = 1) else if j = 53 then decide (w.1 = 2) else false
def cSt (v f : Int) (w : jW) : Prop := cV f (fBt w) ∧ (w.1 = 0 → v = 0) ∧ (w.1 = 1 → v = pk w.2.1) ∧ (w.1 = 2 → cV v w.2.2.1)
theorem lk_52 : ∀ j, j < 64 → lb 4503599627370496 j = onS 52 j := by decide +kernel
theorem lk_53 : ∀ j, j < 64 → lb 9007199254740992 j = onS 53 j := by decide +kernel
theorem lk_kd : ∀ j, j < 64 → lb 13510798882111488 j = (decide (j = 52) || decide (j = 53)) := by decide +kernel
theorem lk_ks : ∀ j, j < 64 → lb 13792273858822143 j = (decide (j < 48) || decide (j = 52) || decide (j = 53)) := by decide +kernel
theorem lk_cp : ∀ j, j < 64 → lb 4222124650659840 j = (decide (48 ≤ j) && decide (j < 52)) := by decide +kernel
theorem lk_nc : ∀ j, j < 64 → lb (-4222124650659841) j = !(decide (48 ≤ j) && decide (j < 52)) := by decide +kernel
theorem lk_36 : ∀ j, j < 64 → lb 68719476735 j = decide (j < 36) := by decide +kernel
theorem lk_24 : ∀ j, j < 64 → lb 16777215 j = decide (j < 24) := by decide +kernel
theorem lk_ln : ∀ j, j < 64 → lb 68702699520 j = (decide (24 ≤ j) && decide (j < 36)) := by decide +kernel
theorem lk_al : ∀ j, j < 64 → lb 18014398509481983 j = sAl j := by decide +kernel
theorem lk_62 : ∀ j, j < 64 → lb 4611686018427387904 j = onS 62 j := by decide +kernel
theorem lk_12 : ∀ j, j < 64 → lb 4095 j = decide (j < 12) := by decide +kernel
theorem lk_oa : ∀ j, j < 64 → lb 68736258049 j = (decide (j < 48) && decide (j % 12 = 0)) := by decide +kernel
theorem cV_k {x : Int} {s : Nat → Bool} (h1 : lR x) (h : ∀ j, j < 64 → lb x j = s j) : cV x s := ⟨h1, h⟩
theorem oN_t {o : Option Nat} (h : ∀ k, o = some k → k < 12) : oN o < 13 := by
  cases o with
  | none => decide
  | some k => have := h k rfl; show k + 1 < 13; omega
section CSL
variable {F : Int → Prop}
/-- the copy -/
theorem c_copy {w : jW} (hw : ∀ k, w.2.2.2.1 = some k → k < 12) {f : Int} (h : cV f (fBt w)) (S : nk_S) : ja_X7_copyOf f S = some ((oN w.2.2.2.1 : Int) - 1, S) := by
  have h13 := oN_t hw
  have e : nk_land (nk_lushr f 48) 15 = (oN w.2.2.2.1 : Int) := by
    refine lb_ext (lR_and _ _) (by unfold lR; omega) (fun j hj => ?_)
    have l15 : ∀ j, j < 64 → lb 15 j = decide (j < 4) := by decide +kernel
    have e48 : lb (nk_lushr f 48) j = lb f (48 + j) := lb_ushr (n := 48) (by decide) j
    rw [lb_and, e48, l15 j hj, lb_n, decide_eq_true hj, Bool.true_and]
    by_cases c : j < 4
    · rw [decide_eq_true c, Bool.and_true, h.2 (48 + j) (by omega)]
      unfold fBt
      rw [if_neg (by omega), if_pos (by omega), show 48 + j - 48 = j by omega]
    · rw [decide_eq_false c, Bool.and_false]
      symm
      apply Nat.testBit_lt_two_pow
      have : (2 : Nat) ^ 4 ≤ 2 ^ j := Nat.pow_le_pow_right (by decide) (by omega)
      omega
  unfold ja_X7_copyOf
  have e1 : nk_w ((oN w.2.2.2.1 : Nat) : Int) = (oN w.2.2.2.1 : Int) := nk_w_id (by omega) (by omega)
  rw [e, e1]
  clear e1 e
  rw [nk_w_id (by omega) (by omega)]
/-- facts are added -/
theorem c_addF {w : jW} {f g : Int} {s : Nat → Bool} (h : cV f (fBt w)) (hg : cV g s) (hs : ∀ j, s j = true → j < 48) : cV (nk_lor f g) (fBt (wFc w (sOr w.2.2.2.2 s))) := by
  refine ⟨lR_or _ _, fun j hj => ?_⟩
  rw [lb_or, h.2 j hj, hg.2 j hj]
  unfold fBt wFc sOr
  dsimp only
  by_cases c : j < 48
  · rw [if_pos c, if_pos c]
  · rw [if_neg c, if_neg c]
    have : s j = false := by
      cases q : s j with
      | false => rfl
      | true => exact absurd (hs j q) c
    rw [this, Bool.or_false]
/-- facts of numbers alone -/
theorem c_int {w : jW} {f : Int} (h : cV f (fBt w)) : cV (nk_land f 68719476735) (iS w.2.2.2.2) := by
  refine ⟨lR_and _ _, fun j hj => ?_⟩
  rw [lb_and, h.2 j hj, lk_36 j hj]
  unfold iS fBt
  by_cases c : j < 36
  · rw [if_pos (by omega), decide_eq_true c, Bool.and_true, Bool.true_and]
  · rw [decide_eq_false c, Bool.and_false, Bool.false_and]
theorem fBt_fr {w : jW} {j : Nat} (h : 48 ≤ j) (w' : jW) (h1 : w'.1 = w.1) (h2 : w'.2.2.2.1 = w.2.2.2.1) : fBt w' j = fBt w j := by
  unfold fBt
  rw [if_neg (show ¬ j < 48 by omega), if_neg (show ¬ j < 48 by omega), h1, h2]
/-- the mask that forgets a local -/
theorem c_mask {a : Nat} (ha : a < 12) : cV (nk_lxor (nk_lshl 68736258049 (a : Int)) (-1)) (fun j => !(decide (j < 48) && decide (j % 12 = a))) := by
  refine ⟨lR_xor _ _, fun j hj => ?_⟩
  rw [lb_xor, lb_m1 j hj, lb_shl (by omega), decide_eq_true hj, Bool.true_and]
  have : (!decide (j < a) && lb 68736258049 (j - a)) = (decide (j < 48) && decide (j % 12 = a)) := by
    by_cases c : j < a
    · rw [decide_eq_true c]
      have : ¬ j % 12 = a := by omega
      rw [decide_eq_false this, Bool.and_false]; rfl
    · rw [decide_eq_false c, lk_oa (j - a) (by omega)]
      have e : ((j - a < 48) ∧ (j - a) % 12 = 0) ↔ (j < 48 ∧ j % 12 = a) := by
        constructor
        · intro w; omega
        · intro w; omega
      show (true && (decide (j - a < 48) && decide ((j - a) % 12 = 0))) = _
      rw [Bool.true_and, ← Bool.decide_and, ← Bool.decide_and]
      exact decide_eq_decide.mpr e
  rw [this]
  show ((decide (j < 48) && decide (j % 12 = a)) ^^ true) = !(decide (j < 48) && decide (j % 12 = a))
  cases (decide (j < 48) && decide (j % 12 = a)) <;> rfl
theorem c_chg {w : jW} {a : Nat} {f m : Int} (h : cV f (fBt w)) (hm : cV m (fun j => !(decide (j < 48) && decide (j % 12 = a)))) : (w.2.2.2.1 ≠ some a → cV (nk_land f m) (fBt (wCh w a))) ∧ (w.2.2.2.1 = some a → cV (nk_land f (nk_land m (-4222124650659841))) (fBt (wCh w a))) := by
  have key : ∀ j, j < 48 → fBt (wCh w a) j = (fBt w j && !(decide (j < 48) && decide (j % 12 = a))) := by
    intro j hj
    unfold fBt wCh
    dsimp only
    rw [if_pos hj, if_pos hj, decide_eq_true hj, Bool.true_and]
  constructor
  · intro hn
    refine ⟨lR_and _ _, fun j hj => ?_⟩
    rw [lb_and, h.2 j hj, hm.2 j hj]
    dsimp only
    by_cases c : j < 48
    · rw [key j c]
    · rw [decide_eq_false c, fBt_fr (w := w) (by omega) (wCh w a) rfl (by show (if w.2.2.2.1 = some a then none else w.2.2.2.1) = _; rw [if_neg hn])]
      show (fBt w j && true) = _
      rw [Bool.and_true]
  · intro hn
    refine ⟨lR_and _ _, fun j hj => ?_⟩
    rw [lb_and, lb_and, h.2 j hj, hm.2 j hj, lk_nc j hj]
    dsimp only
    by_cases c : j < 48
    · rw [key j c, decide_eq_false (show ¬ 48 ≤ j by omega)]
      show (fBt w j && (!(decide (j < 48) && decide (j % 12 = a)) && true)) = _
      rw [Bool.and_true]
    · rw [decide_eq_false c, decide_eq_true (show 48 ≤ j by omega)]
      show (fBt w j && (true && !(true && decide (j < 52)))) = _
      rw [Bool.true_and, Bool.true_and]
      have e : (wCh w a).2.2.2.1 = none := by show (if w.2.2.2.1 = some a then none else w.2.2.2.1) = _; rw [if_pos hn]
      unfold fBt
      rw [if_neg c, if_neg c, e]
      by_cases d : j < 52
      · rw [decide_eq_true d, if_pos d, if_pos d]
        show (_ && false) = (0 : Nat).testBit (j - 48)
        rw [Bool.and_false, Nat.zero_testBit]
      · rw [decide_eq_false d, if_neg d, if_neg d]
        show (_ && true) = _
        rw [Bool.and_true]
        rfl
/-- without its copy -/
theorem c_noC {w : jW} {f : Int} (h : cV f (fBt w)) : cV (nk_land f (-4222124650659841)) (fBt (wCp w none)) := by
  refine ⟨lR_and _ _, fun j hj => ?_⟩
  rw [lb_and, h.2 j hj, lk_nc j hj]
  unfold fBt wCp
  dsimp only
  by_cases c : j < 48
  · rw [if_pos c, if_pos c, decide_eq_false (show ¬ 48 ≤ j by omega)]
    show (_ && true) = _
    rw [Bool.and_true]
  · rw [if_neg c, if_neg c, decide_eq_true (show 48 ≤ j by omega), Bool.true_and]
    by_cases d : j < 52
    · rw [decide_eq_true d, if_pos d, if_pos d]
      show (_ && false) = (0 : Nat).testBit (j - 48)
      rw [Bool.and_false, Nat.zero_testBit]
    · rw [decide_eq_false d, if_neg d, if_neg d]
      show (_ && true) = _
      rw [Bool.and_true]
/-- its kind alone -/
theorem c_bare {w : jW} {f : Int} (h : cV f (fBt w)) : cV (nk_land f 13510798882111488) (fBt (wBr w)) := by
  refine ⟨lR_and _ _, fun j hj => ?_⟩
  rw [lb_and, h.2 j hj, lk_kd j hj]
  unfold fBt wBr noS
  dsimp only
  by_cases c : j < 48
  · rw [if_pos c, if_pos c, decide_eq_false (show ¬ j = 52 by omega), decide_eq_false (show ¬ j = 53 by omega)]
    show (_ && false) = false
    rw [Bool.and_false]
  · rw [if_neg c, if_neg c]
    by_cases d : j < 52
    · rw [if_pos d, if_pos d, decide_eq_false (show ¬ j = 52 by omega), decide_eq_false (show ¬ j = 53 by omega)]
      show (_ && false) = (0 : Nat).testBit (j - 48)
      rw [Bool.and_false, Nat.zero_testBit]
    · rw [if_neg d, if_neg d]
      by_cases e1 : j = 52
      · rw [if_pos e1, decide_eq_true e1, Bool.true_or, Bool.and_true]
      · rw [if_neg e1]
        by_cases e2 : j = 53
        · rw [if_pos e2, decide_eq_true e2, Bool.or_true, Bool.and_true]
        · rw [if_neg e2, Bool.false_and]
/-- a copy of a local -/
theorem c_load {w : jW} {f : Int} {a : Nat} (ha : a < 12) (h : cV f (fBt w)) (hn : w.2.2.2.1 = none) : cV (nk_lor f (nk_lshl ((a + 1 : Nat) : Int) 48)) (fBt (wCp w (some a))) := by
  refine ⟨lR_or _ _, fun j hj => ?_⟩
  have e48 : lb (nk_lshl ((a + 1 : Nat) : Int) 48) j = (decide (j < 64) && (!decide (j < 48) && lb ((a + 1 : Nat) : Int) (j - 48))) := lb_shl (n := 48) (by decide) j
  rw [lb_or, h.2 j hj, e48, decide_eq_true hj, Bool.true_and, lb_n]
  unfold fBt wCp
  dsimp only
  by_cases c : j < 48
  · rw [if_pos c, if_pos c, decide_eq_true c]
    show (_ || false) = _
    rw [Bool.or_false]
  · rw [if_neg c, if_neg c, decide_eq_false c, decide_eq_true (show j - 48 < 64 by omega)]
    show (_ || (true && (true && (a + 1).testBit (j - 48)))) = _
    rw [Bool.true_and, Bool.true_and]
    by_cases d : j < 52
    · rw [if_pos d, if_pos d, hn]
      show ((0 : Nat).testBit (j - 48) || _) = (a + 1).testBit (j - 48)
      rw [Nat.zero_testBit, Bool.false_or]
    · rw [if_neg d, if_neg d]
      have : (a + 1).testBit (j - 48) = false := by
        apply Nat.testBit_lt_two_pow
        have : (2 : Nat) ^ 4 ≤ 2 ^ (j - 48) := Nat.pow_le_pow_right (by decide) (by omega)
        omega
      rw [this, Bool.or_false]
theorem fBt_R (r : jR) : cV 4503599627370496 (fBt (wR r)) := by
  refine ⟨by unfold lR; omega, fun j hj => ?_⟩
  rw [lk_52 j hj]
  unfold fBt wR onS noS
  dsimp only
  by_cases c : j < 48
  · rw [if_pos c, decide_eq_false (by omega)]
  · rw [if_neg c]
    by_cases d : j < 52
    · rw [if_pos d, decide_eq_false (by omega)]
      show false = (0 : Nat).testBit (j - 48)
      rw [Nat.zero_testBit]
    · rw [if_neg d]
      by_cases e1 : j = 52
      · rw [if_pos e1, decide_eq_true e1]; rfl
      · rw [if_neg e1, decide_eq_false e1]
        split <;> rfl
theorem fBt_S (s : Nat → Bool) : cV 9007199254740992 (fBt (wS s)) := by
  refine ⟨by unfold lR; omega, fun j hj => ?_⟩
  rw [lk_53 j hj]
  unfold fBt wS onS noS
  dsimp only
  by_cases c : j < 48
  · rw [if_pos c, decide_eq_false (by omega)]
  · rw [if_neg c]
    by_cases d : j < 52
    · rw [if_pos d, decide_eq_false (by omega)]
      show false = (0 : Nat).testBit (j - 48)
      rw [Nat.zero_testBit]
    · rw [if_neg d]
      by_cases e1 : j = 52
      · rw [if_pos e1, decide_eq_false (by omega)]; rfl
      · rw [if_neg e1]
        by_cases e2 : j = 53
        · rw [if_pos e2, decide_eq_true e2]; rfl
        · rw [if_neg e2, decide_eq_false e2]
theorem fBt_U : cV 0 (fBt wU) := by
  refine ⟨by unfold lR; omega, fun j hj => ?_⟩
  rw [lb_0]
  unfold fBt wU noS
  dsimp only
  split
  · rfl
  · split
    · show false = (0 : Nat).testBit (j - 48)
      rw [Nat.zero_testBit]
    · split
      · rfl
      · split <;> rfl
theorem cSt_R {r : jR} : cSt (pk r) 4503599627370496 (wR r) := ⟨fBt_R r, (fun h => by cases h), fun _ => rfl, fun h => by cases h⟩
theorem cSt_S {v : Int} {s : Nat → Bool} (h : cV v s) : cSt v 9007199254740992 (wS s) := ⟨fBt_S s, (fun h => by cases h), (fun h => by cases h), fun _ => h⟩
theorem cSt_U : cSt 0 0 wU := ⟨fBt_U, fun _ => rfl, (fun h => by cases h), fun h => by cases h⟩
/-- one slot, one pair -/
theorem cSt_u {v f v' f' : Int} {w : jW} (hk : w.1 ≤ 2) (h : cSt v f w) (k : cSt v' f' w) : v = v' ∧ f = f' := by
  refine ⟨?_, cV_u h.1 k.1⟩
  have : w.1 = 0 ∨ w.1 = 1 ∨ w.1 = 2 := by omega
  rcases this with q | q | q
  · rw [h.2.1 q, k.2.1 q]
  · rw [h.2.2.1 q, k.2.2.1 q]
  · exact cV_u (h.2.2.2 q) (k.2.2.2 q)
end CSL
