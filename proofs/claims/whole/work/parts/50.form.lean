/-! The form of a program: one function for both sides; the reference does it. -/
def tk (b : Bool) (a : Nat) : Bool × Nat := match b with
  | true => (true, a + 1)
  | false => (false, a)
def sq (x : Bool × Nat) (k : Nat → Bool × Nat) : Bool × Nat := match x with
  | (true, a) => k a
  | (false, a) => (false, a)
section FM
variable (tx : List (List Int))
def fW (w a : Nat) : Bool := decide (tx[a]? = some (fx.getD w []))
def fN (a : Nat) : Bool := decide (nmS (tx.getD a []) = 1)
def fC (a : Nat) : Bool := decide (nmS (tx.getD a []) = 2)
def fT (a : Nat) : Bool := isT (tx.getD a [])
def fU (a : Nat) : Bool := isNum (tx.getD a [])
def fR (a : Nat) : Bool := refQ (tx.getD a [])
/-- the instruction's number; -1 if it is none -/
def fO (a : Nat) : Int := amx (tx.getD a []) (fx.take 46) 0
def fOp (k : Nat) (a : Nat) : Bool × Nat := match k with
  | 1 => tk (fU tx a) a
  | 2 => tk (fU tx a) a
  | 3 => sq (tk (fU tx a) a) fun a => tk (fU tx a) a
  | 4 => tk (fN tx a) a
  | 5 => tk (fC tx a) a
  | 6 => tk (fW tx 52 a || fC tx a) a
  | 7 => tk (fT tx a && !fW tx 52 a) a
  | 8 => tk (fR tx a) a
  | _ => (true, a)
/-- the operands' kind of an instruction -/
def fK (o : Nat) : Nat := ((ja_ob 45).getD o 0).toInt.toNat
def fLine (a : Nat) : Bool × Nat := if fW tx 59 (a + 1) = true then sq (tk (fN tx a) a) fun a => (true, a + 1)
  else if fW tx 46 a = true then sq (tk (fN tx (a + 1)) (a + 1)) fun a => sq (tk (fN tx a) a) fun a => sq (tk (fN tx a) a) fun a => tk (fC tx a) a
  else if 0 ≤ fO tx a then fOp tx (fK (fO tx a).toNat) (a + 1)
  else (false, (tk (fN tx a) a).2)
def fLines : Nat → Nat → Bool × Nat
  | 0, a => (false, a)
  | d + 1, a => if fW tx 58 a = true then (true, a + 1) else sq (fLine tx a) (fLines d)
def fTypes : Nat → Nat → Bool × Nat
  | 0, a => (false, a)
  | d + 1, a => if fW tx 56 a = true then (true, a + 1) else sq (tk (fT tx a) a) (fTypes d)
def fMember (d a : Nat) : Bool × Nat := if fW tx 49 a = true then sq (tk (fN tx (a + 1)) (a + 1)) fun a => tk (fT tx a) a
  else sq (tk (fW tx 50 a || fW tx 51 a) a) fun a => sq (tk (fN tx a) a) fun a => sq (tk (fW tx 55 a) a) fun a => sq (fTypes tx d a) fun a => sq (tk (fW tx 53 a || fT tx a) a) fun a => sq (tk (fU tx a) a) fun a => sq (tk (fW tx 57 a) a) fun a => fLines tx d a
def fMembers (d0 : Nat) : Nat → Nat → Bool × Nat
  | 0, a => (false, a)
  | d + 1, a => if fW tx 58 a = true then (true, a + 1) else sq (fMember tx d0 a) (fMembers d0 d)
def fProg (d0 : Nat) : Nat → Nat → Bool × Nat
  | 0, a => (false, a)
  | d + 1, a => if tx.length ≤ a then (true, a) else sq (tk (fW tx 47 a) a) fun a => sq (tk (fC tx a) a) fun a => sq (tk (fW tx 48 a) a) fun a => sq (tk (fC tx a) a) fun a => sq (tk (fW tx 57 a) a) fun a => sq (fMembers tx d0 d0 a) (fProg d0 d)
end FM
/-! the reference -/
def ma (S : nk_S) (a : Nat) : nk_S := nk_wi S 121 11 (a : Int)
theorem ma_at (S : nk_S) (a : Nat) : (ma S a).1 121 11 = (a : Int) := by unfold ma; simp only [wi_v, and_self, if_true]
theorem ma_ma (S : nk_S) (a b : Nat) : nk_wi (ma S a) 121 11 (b : Int) = ma S b := by
  unfold ma nk_wi
  refine Prod.ext ?_ rfl
  funext x i
  dsimp only
  split <;> rfl
theorem ma_MW {S : nk_S} {tx : List (List Int)} (a : Nat) (h : MW S tx) : MW (ma S a) tx := by
  obtain ⟨h1, h2, h3⟩ := h
  refine ⟨?_, h2, fun i l hl => ?_⟩
  · unfold ma; simp +decide only [wi_v, if_false]; exact h1
  · obtain ⟨f, t, e1, e2, e3, e4, e5⟩ := h3 i l hl
    refine ⟨f, t, ?_, ?_, e3, e4, ?_⟩
    · unfold ma; rw [wi_n (by decide)]; exact e1
    · unfold ma; rw [wi_n (by decide)]; exact e2
    · unfold ma; rw [wi_n (by decide)]; exact e5
theorem ma_T {S : nk_S} {tx : List (List Int)} (a : Nat) (h : MW S tx) : (ma S a).1 121 10 = (tx.length : Int) := (ma_MW a h).1
def mR (S : nk_S) (r : Bool × Nat) : Option (Int × nk_S) := some (bi r.1, ma S r.2)
theorem m_takes {S : nk_S} {a : Nat} (b : Bool) (ha : a < 2000000) : ja_X13_takes 121 (bi b) (ma S a) = mR S (tk b a) := by
  unfold ja_X13_takes
  cases b with
  | false => rw [if_pos (show bi false = 0 from rfl), if_pos (show bi false = 0 ∨ bi false = 1 from Or.inl rfl)]; rfl
  | true => rw [if_neg (show ¬ bi true = 0 by decide), lt_eq, ma_at, w_nat1 (by omega), ma_ma, if_pos (show bi true = 0 ∨ bi true = 1 from Or.inr rfl)]; rfl
theorem tk_le (b : Bool) (a : Nat) : a ≤ (tk b a).2 ∧ (tk b a).2 ≤ a + 1 := by cases b <;> simp [tk]
/-- a token is looked at and taken; then it goes on -/
theorem m_sq {S : nk_S} {a : Nat} {b : Bool} {p : nk_S → Option (Int × nk_S)} {K : nk_S → Option (Int × nk_S)} {k : Nat → Bool × Nat} (ha : a < 2000000) (hp : p (ma S a) = some (bi b, ma S a)) (hK : b = true → K (ma S (a + 1)) = mR S (k (a + 1))) : (nk_bd (p (ma S a)) fun r1 S2 => nk_bd (ja_X13_takes 121 r1 S2) fun r4 S5 => if r4 = 0 then some (0, S5) else K S5) = mR S (sq (tk b a) k) := by
  rw [hp, bd_some, m_takes b ha]
  cases b with
  | false => rfl
  | true => exact hK rfl
theorem m_end {S : nk_S} {a : Nat} {b : Bool} {p : nk_S → Option (Int × nk_S)} (ha : a < 2000000) (hp : p (ma S a) = some (bi b, ma S a)) : (nk_bd (p (ma S a)) fun r1 S2 => nk_bd (ja_X13_takes 121 r1 S2) fun r4 S5 => if r4 = 0 then some (0, S5) else some (1, S5)) = mR S (tk b a) := by
  rw [hp, bd_some, m_takes b ha]
  cases b <;> rfl
theorem m_end2 {S : nk_S} {a : Nat} {b : Bool} {p : nk_S → Option (Int × nk_S)} (ha : a < 2000000) (hp : p (ma S a) = some (bi b, ma S a)) : (nk_bd (p (ma S a)) fun r1 S2 => nk_bd (ja_X13_takes 121 r1 S2) fun r4 S5 => if r4 = 0 ∨ r4 = 1 then some (r4, S5) else none) = mR S (tk b a) := by
  rw [hp, bd_some, m_takes b ha]
  cases b <;> rfl
theorem ok_t : okt 7 ∧ okt 9 ∧ okt 11 ∧ okt 13 ∧ okt 15 ∧ okt 17 ∧ okt 19 ∧ okt 21 ∧ okt 23 ∧ okt 25 ∧ okt 27 ∧ okt 29 ∧ okt 31 ∧ okt 33 ∧ okt 35 ∧ okt 37 ∧ okt 39 ∧ okt 41 := by
  unfold okt; decide +kernel
theorem tx_t : txt 7 = fx.getD 47 [] ∧ txt 9 = fx.getD 48 [] ∧ txt 11 = fx.getD 57 [] ∧ txt 13 = fx.getD 58 [] ∧ txt 15 = fx.getD 49 [] ∧ txt 17 = fx.getD 50 [] ∧ txt 19 = fx.getD 51 [] ∧ txt 21 = fx.getD 55 [] ∧ txt 23 = fx.getD 56 [] ∧ txt 25 = fx.getD 53 [] ∧ txt 27 = fx.getD 59 [] ∧ txt 29 = fx.getD 46 [] ∧ txt 35 = fx.getD 52 [] ∧ txt 39 = fx.getD 68 [] ∧ txt 41 = fx.getD 69 [] ∧ txt 31 = amr (fx.take 46) ∧ txt 37 = amr ((fx.drop 60).take 8) := by decide +kernel
theorem fx_sp : (∀ w ∈ fx.take 46, ∀ x ∈ w, ¬ x = 32) ∧ ∀ w ∈ (fx.drop 60).take 8, ∀ x ∈ w, ¬ x = 32 := by decide +kernel
section MFM
variable {S : nk_S} {tx : List (List Int)} (hM : MW S tx)
theorem m_W {k w : Nat} (hM : MW S tx) (hk : okt k) (hw : txt k = fx.getD w []) (a b : Nat) (hb : b < 2000000) : ja_X13_is 121 (b : Int) k (ma S a) = some (bi (fW tx w b), ma S a) := by
  rw [m_is (ma_MW a hM) hk b hb, hw]; rfl
theorem m_opOf (hM : MW S tx) (a : Nat) (ha : a < tx.length) : ja_X13_opOf 121 (a : Int) (ma S a) = some (fO tx a, ma S a) := by
  obtain ⟨f, t, e1, e2, e3, e4, e5, e6⟩ := MW_get (ma_MW a hM) ha
  unfold ja_X13_opOf
  rw [if_pos (in_i (N := 16002) (by omega)), jc_121_8, jc_121_9, Int.toNat_natCast, e1, e2, m_among ok_t.2.2.2.2.2.2.2.2.2.2.2.2.1 (by omega) e4 tx_t.2.2.2.2.2.2.2.2.2.2.2.2.2.2.2.1 fx_sp.1, bd_some, e5]
  rfl
theorem amx_rg (l : List Int) : ∀ (ws : List (List Int)) (j : Int), amx l ws j = -1 ∨ j ≤ amx l ws j ∧ amx l ws j < j + ws.length := by
  intro ws
  induction ws with
  | nil => intro j; exact Or.inl rfl
  | cons w ws ih =>
    intro j
    rw [amx]
    split
    · right; simp only [List.length_cons]; omega
    · rcases ih (j + 1) with h | h
      · exact Or.inl h
      · right; simp only [List.length_cons]; omega
theorem fO_rg (a : Nat) : fO tx a = -1 ∨ 0 ≤ fO tx a ∧ fO tx a < 46 := by
  have h := amx_rg (tx.getD a []) (fx.take 46) 0
  have e : (fx.take 46).length = 46 := by decide
  rw [e] at h
  unfold fO
  omega
/-- the kinds of operands, as both tell them -/
theorem fK_t : ∀ o, o < 46 → (txt 33).getD o 0 = (([45, 78, 75, 73, 76, 67, 69, 84, 70] : List Int).getD (fK o) 0) ∧ fK o < 9 ∧ o < (txt 33).length := by decide +kernel
end MFM
