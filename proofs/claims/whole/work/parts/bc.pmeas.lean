/-! The proof: how often what is known can rise. -/
/-- the row of the thresholds -/
def thN (F : Int → Prop) (th : Nat → Int) (n : Nat) : Prop := n ≤ 3100 ∧ ∀ y, F y ↔ ∃ i, i < n ∧ th i = y
def cDn (th : Nat → Int) (n : Nat) (v : Int) : Nat := sm (fun i => if th i < v then 1 else 0) n
def cUp (th : Nat → Int) (n : Nat) (v : Int) : Nat := sm (fun i => if v < th i then 1 else 0) n
def sCt (s : Nat → Bool) (n : Nat) : Nat := sm (fun i => if s i = true then 1 else 0) n
def sNt (s : Nat → Bool) (n : Nat) : Nat := sm (fun i => if s i = true then 0 else 1) n
def oC : Option Nat → Nat
  | none => 0
  | some _ => 1
def wRk (th : Nat → Int) (n : Nat) (w : jW) : Nat := if w.1 = 0 then 0 else 1 + (if w.1 = 1 then cDn th n w.2.1.1 + cUp th n w.2.1.2 else 0) + sNt w.2.2.1 63 + sCt w.2.2.2.2 48 + oC w.2.2.2.1
section PME
variable {F : Int → Prop} {th : Nat → Int} {n : Nat}
theorem sm_1 {f : Nat → Nat} (h : ∀ i, f i ≤ 1) : ∀ n, sm f n ≤ n := by
  intro n
  induction n with
  | zero => exact Nat.le_refl _
  | succ n ih => rw [sm]; have := h n; omega
theorem cDn_le (v : Int) : cDn th n v ≤ n := sm_1 (fun i => by split <;> omega) n
theorem cUp_le (v : Int) : cUp th n v ≤ n := sm_1 (fun i => by split <;> omega) n
theorem sCt_le (s : Nat → Bool) (m : Nat) : sCt s m ≤ m := sm_1 (fun i => by split <;> omega) m
theorem sNt_le (s : Nat → Bool) (m : Nat) : sNt s m ≤ m := sm_1 (fun i => by split <;> omega) m
theorem cDn_m {v w : Int} (h : v ≤ w) : cDn th n v ≤ cDn th n w := sm_le (fun i => by
  by_cases c : th i < v
  · rw [if_pos c, if_pos (by omega)]; exact Nat.le_refl _
  · rw [if_neg c]; exact Nat.zero_le _) n
theorem cUp_m {v w : Int} (h : w ≤ v) : cUp th n v ≤ cUp th n w := sm_le (fun i => by
  by_cases c : v < th i
  · rw [if_pos c, if_pos (by omega)]; exact Nat.le_refl _
  · rw [if_neg c]; exact Nat.zero_le _) n
theorem cDn_lt (hF : thN F th n) {v w : Int} (h : v < w) (hv : F v) : cDn th n v < cDn th n w := by
  obtain ⟨i, i1, i2⟩ := (hF.2 v).mp hv
  refine sm_lt (fun j => ?_) (k := i) ?_ n i1
  · by_cases c : th j < v
    · rw [if_pos c, if_pos (by omega)]; exact Nat.le_refl _
    · rw [if_neg c]; exact Nat.zero_le _
  · rw [if_neg (by omega), if_pos (by omega)]; decide
theorem cUp_lt (hF : thN F th n) {v w : Int} (h : w < v) (hv : F v) : cUp th n v < cUp th n w := by
  obtain ⟨i, i1, i2⟩ := (hF.2 v).mp hv
  refine sm_lt (fun j => ?_) (k := i) ?_ n i1
  · by_cases c : v < th j
    · rw [if_pos c, if_pos (by omega)]; exact Nat.le_refl _
    · rw [if_neg c]; exact Nat.zero_le _
  · rw [if_neg (by omega), if_pos (by omega)]; decide
theorem sCt_m {s t : Nat → Bool} (h : sLe s t) (m : Nat) : sCt s m ≤ sCt t m := sm_le (fun i => by
  by_cases c : s i = true
  · rw [if_pos c, if_pos (h i c)]; exact Nat.le_refl _
  · rw [if_neg c]; exact Nat.zero_le _) m
theorem sNt_m {s t : Nat → Bool} (h : sLe s t) (m : Nat) : sNt t m ≤ sNt s m := sm_le (fun i => by
  by_cases c : s i = true
  · rw [if_pos c, if_pos (h i c)]; exact Nat.le_refl _
  · rw [if_neg c]; split <;> omega) m
theorem sCt_lt {s t : Nat → Bool} (h : sLe s t) {m k : Nat} (hk : k < m) (h1 : s k = false) (h2 : t k = true) : sCt s m < sCt t m := by
  refine sm_lt (fun i => ?_) (k := k) ?_ m hk
  · by_cases c : s i = true
    · rw [if_pos c, if_pos (h i c)]; exact Nat.le_refl _
    · rw [if_neg c]; exact Nat.zero_le _
  · rw [h1, if_neg (by decide), if_pos h2]; decide
theorem sNt_lt {s t : Nat → Bool} (h : sLe s t) {m k : Nat} (hk : k < m) (h1 : s k = false) (h2 : t k = true) : sNt t m < sNt s m := by
  refine sm_lt (fun i => ?_) (k := k) ?_ m hk
  · by_cases c : s i = true
    · rw [if_pos c, if_pos (h i c)]; exact Nat.le_refl _
    · rw [if_neg c]; split <;> omega
  · rw [if_pos h2, h1, if_neg (by decide)]; decide
theorem wRk_b (hF : thN F th n) (w : jW) : wRk th n w ≤ 6400 := by
  unfold wRk
  have h1 := hF.1
  have h2 := cDn_le (th := th) (n := n) w.2.1.1
  have h3 := cUp_le (th := th) (n := n) w.2.1.2
  have h4 := sNt_le w.2.2.1 63
  have h5 := sCt_le w.2.2.2.2 48
  have h6 : oC w.2.2.2.1 ≤ 1 := by
    cases w.2.2.2.1 with
    | none => exact Nat.zero_le _
    | some k => exact Nat.le_refl _
  split
  · omega
  · split <;> omega
theorem sLe_ne {s t : Nat → Bool} (h : sLe s t) (hn : s ≠ t) : ∃ k, s k = false ∧ t k = true := by
  by_cases c : ∃ k, s k = false ∧ t k = true
  · exact c
  · exfalso
    apply hn
    refine sLe_anti h (fun k hk => ?_)
    cases hs : s k with
    | true => rfl
    | false => exact absurd ⟨k, hs, hk⟩ c
/-- what rises has less to rise -/
theorem wRk_lt (hF : thN F th n) {a c : jW} (ha : wOk F a) (hc : wOk F c) (h : wle a c) (hn : a ≠ c) : wRk th n c < wRk th n a := by
  by_cases c0 : c.1 = 0
  · have a0 : a.1 ≠ 0 := fun q => hn (by rw [wOk_0 ha q, wOk_0 hc c0])
    unfold wRk
    rw [if_pos c0, if_neg a0]
    omega
  · obtain ⟨h1, h2, h3, h4, h5⟩ := wle_d h c0
    have le0 : (if c.1 = 1 then cDn th n c.2.1.1 + cUp th n c.2.1.2 else 0) ≤ (if a.1 = 1 then cDn th n a.2.1.1 + cUp th n a.2.1.2 else 0) := by
      rw [h1]
      split
      · have := cDn_m (th := th) (n := n) h2.1
        have := cUp_m (th := th) (n := n) h2.2
        omega
      · exact Nat.le_refl _
    have le1 := sNt_m h3 63
    have le2 := sCt_m h5 48
    have le3 : oC c.2.2.2.1 ≤ oC a.2.2.2.1 := by
      rcases h4 with e | e
      · rw [e]; exact Nat.zero_le _
      · rw [e]; exact Nat.le_refl _
    unfold wRk
    rw [if_neg c0, if_neg (show ¬ a.1 = 0 by omega)]
    by_cases e1 : a.2.1 = c.2.1
    · by_cases e2 : a.2.2.1 = c.2.2.1
      · by_cases e3 : a.2.2.2.2 = c.2.2.2.2
        · have e4 : a.2.2.2.1 ≠ c.2.2.2.1 := by
            intro e4
            apply hn
            obtain ⟨a1, a2, a3, a4, a5⟩ := a
            obtain ⟨c1, c2, c3, c4, c5⟩ := c
            dsimp only at *
            rw [h1, e1, e2, e3, e4]
          have lt3 : oC c.2.2.2.1 < oC a.2.2.2.1 := by
            rcases h4 with e | e
            · rw [e] at e4 ⊢
              cases hq : a.2.2.2.1 with
              | none => exact absurd hq e4
              | some k => exact Nat.zero_lt_one
            · exact absurd e.symm e4
          omega
        · obtain ⟨k, k1, k2⟩ := sLe_ne h5 (fun q => e3 q.symm)
          have := sCt_lt h5 (ha.2.1 k k2) k1 k2
          omega
      · obtain ⟨k, k1, k2⟩ := sLe_ne h3 e2
        have hk : k < 63 := by
          by_cases d : c.1 = 1
          · have := (wOk_1 hc d).2
            rw [this] at k2; cases k2
          · have := (wOk_2 hc (by have := wOk_k hc; omega)).2.2 k k2
            omega
        have := sNt_lt h3 hk k1 k2
        omega
    · have d : c.1 = 1 := by
        by_cases d : c.1 = 1
        · exact d
        · exfalso
          have hk := wOk_k hc
          have q1 := (wOk_2 hc (by omega)).1
          have q2 := (wOk_2 ha (by omega)).1
          exact e1 (by rw [q1, q2])
      rw [if_pos d, if_pos (show a.1 = 1 by omega)]
      rw [if_pos d, if_pos (show a.1 = 1 by omega)] at le0
      have o1 := (wOk_1 ha (by omega)).1
      have o2 := (wOk_1 hc d).1
      have m1 := cDn_m (th := th) (n := n) h2.1
      have m2 := cUp_m (th := th) (n := n) h2.2
      have : cDn th n c.2.1.1 < cDn th n a.2.1.1 ∨ cUp th n c.2.1.2 < cUp th n a.2.1.2 := by
        by_cases f : c.2.1.1 = a.2.1.1
        · right
          refine cUp_lt hF ?_ o2.2.1
          have := h2.2
          have hne : a.2.1.2 ≠ c.2.1.2 := fun q => e1 (Prod.ext f.symm q)
          omega
        · left
          exact cDn_lt hF (by have := h2.1; omega) o2.1
      omega
/-! the measure of all -/
def aMi (th : Nat → Int) (n : Nat) : Option jQ → Nat
  | none => 128001
  | some u => sm (fun k => wRk th n (u k)) 20
def aMs (th : Nat → Int) (n : Nat) (A : jA) : Nat := sm (fun i => aMi th n (A i)) 1024
def oMi (th : Nat → Int) (n : Nat) : Option jW → Nat
  | none => 6401
  | some w => wRk th n w
def gMs (th : Nat → Int) (n : Nat) (σ : jG) : Nat := sm (fun k => oMi th n (σ.1 k)) 2748 + sNt σ.2.1 48 + sm (fun b => sNt (σ.2.2 b) 54) 48
theorem sm_b {f : Nat → Nat} {c : Nat} (h : ∀ i, f i ≤ c) (m : Nat) : sm f m ≤ m * c := by
  have := sm_le (f := f) (g := fun _ => c) h m
  rw [sm_c] at this
  exact this
theorem aMs_b (hF : thN F th n) (A : jA) : aMs th n A ≤ 1024 * 128001 := by
  refine sm_b (fun i => ?_) 1024
  cases A i with
  | none => exact Nat.le_refl _
  | some u =>
    have := sm_b (f := fun k => wRk th n (u k)) (fun k => wRk_b hF (u k)) 20
    show sm (fun k => wRk th n (u k)) 20 ≤ 128001
    omega
theorem gMs_b (hF : thN F th n) (σ : jG) : gMs th n σ ≤ 17600000 := by
  have h1 := sm_b (f := fun k => oMi th n (σ.1 k)) (c := 6401) (fun k => by
    cases σ.1 k with
    | none => exact Nat.le_refl _
    | some w =>
      have := wRk_b hF w
      show wRk th n w ≤ 6401
      omega) 2748
  have h2 := sNt_le σ.2.1 48
  have h3 := sm_b (f := fun b => sNt (σ.2.2 b) 54) (c := 54) (fun b => sNt_le _ 54) 48
  unfold gMs
  omega
end PME
