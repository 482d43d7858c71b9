/-! The reference calls: the rows that bodies are begun with. -/
/-- the rows with what the meant bodies are called with -/
def nxR (R : jA) (m : Nat → Bool) (E : Nat → jQ) : Nat → jA
  | 0 => R
  | b + 1 => if m b = true then aArr (nxR R m E b) b (E b) else nxR R m E b
/-- one row of rpI -/
def rpR (F : Int → Prop) (us : List Int) (bl : List jB) (z : jL) (el : List (Nat × Nat × Nat × Nat)) (H lc : Nat → Nat) (ty : Nat → Option (Nat → Int)) (m0 : Nat) (G : jZ) (σ : jG) (b : Nat) (r : jQ) : Prop := ∃ (y : jB) (e : Nat × Nat × Nat × Nat) (x' : jC) (t' : Nat → Int), bl[b]? = some y ∧ el[b]? = some e ∧ z.1[e.1]? = some x' ∧ ty e.1 = some t' ∧ rOw F us z (lc e.1) (H e.1) t' r ∧ (∀ k, y.ps.length ≤ k → r k = wU) ∧ (∀ k, k < y.ps.length → vl1 F us z (y.ps.getD k 0) (r k)) ∧ qI (lnP z σ) r ∧ ∀ B τ, pSl F G lc ty m0 B τ → ∃ t, B e.1 = some t ∧ qLe r t
section RBN
variable {ns : List (List Int)} {us : List Int} {fl : List (List Int × Nat × Int)} {bl : List jB} {z : jL} {el : List (Nat × Nat × Nat × Nat)} {F : Int → Prop} {dn up : Int → Int} {H lc : Nat → Nat} {ty : Nat → Option (Nat → Int)} {th : Nat → Int} {n P m0 : Nat} {σ : jG} {R : jA} {m : Nat → Bool} {E : Nat → jQ} {S T : nk_S}
theorem nxR_at : ∀ (n b : Nat), nxR R m E n b = if b < n ∧ m b = true then some (match R b with
    | none => E b
    | some r => fun k => wJn (r k) (E b k)) else R b := by
  intro n
  induction n with
  | zero => intro b; rw [if_neg (by omega)]; rfl
  | succ n ih =>
    intro b
    rw [nxR]
    by_cases c : m n = true
    · rw [if_pos c]
      by_cases e : b = n
      · subst e
        rw [aArr_at, ih b, if_neg (by omega), if_pos ⟨by omega, c⟩]
        rfl
      · rw [aArr_ne e, ih b]
        by_cases q : b < n ∧ m b = true
        · rw [if_pos q, if_pos ⟨by omega, q.2⟩]
        · rw [if_neg q, if_neg (fun w => q ⟨by omega, w.2⟩)]
    · rw [if_neg c, ih b]
      by_cases q : b < n ∧ m b = true
      · rw [if_pos q, if_pos ⟨by omega, q.2⟩]
      · rw [if_neg q, if_neg (fun w => q ⟨by
          have : b ≠ n := fun e => c (by rw [← e]; exact w.2)
          omega, w.2⟩)]
theorem nxR_ms (hF : thN F th n) (hR : ∀ b r, R b = some r → (∀ k, wOk F (r k)) ∧ ∀ k, 20 ≤ k → r k = wU) (hE : ∀ b, m b = true → (∀ k, wOk F (E b k)) ∧ ∀ k, 20 ≤ k → E b k = wU) : ∀ (N : Nat), N ≤ 48 → (∀ b r, nxR R m E N b = some r → (∀ k, wOk F (r k)) ∧ ∀ k, 20 ≤ k → r k = wU) ∧ (nxR R m E N = R ∨ aMs th n (nxR R m E N) < aMs th n R) ∧ aLe R (nxR R m E N) := by
  intro N
  induction N with
  | zero => intro _; exact ⟨hR, Or.inl rfl, aLe_refl R⟩
  | succ N ih =>
    intro hN
    obtain ⟨i1, i2, i3⟩ := ih (by omega)
    rw [nxR]
    by_cases c : m N = true
    · rw [if_pos c]
      have hm := aMs_arr hF (j := N) (by omega) (A := nxR R m E N) (w := E N) (fun u q => i1 N u q) (hE N c)
      refine ⟨fun b r q => ?_, ?_, aLe_trans i3 (aLe_arr _ _ _).1⟩
      · by_cases e : b = N
        · rw [e, aArr_at] at q
          cases q
          cases hq : nxR R m E N N with
          | none => exact hE N c
          | some u =>
            obtain ⟨u1, u2⟩ := i1 N u hq
            obtain ⟨e1, e2⟩ := hE N c
            refine ⟨fun k => wJn_ok (u1 k) (e1 k), fun k hk => ?_⟩
            dsimp only
            rw [u2 k hk, e2 k hk]
            rfl
        · rw [aArr_ne e] at q
          exact i1 b r q
      · by_cases d : aArr (nxR R m E N) N (E N) = nxR R m E N
        · rw [d]; exact i2
        · have := hm.2 d
          right
          rcases i2 with q | q
          · rw [q] at this ⊢; exact this
          · omega
    · rw [if_neg c]
      exact ⟨i1, i2, i3⟩
theorem rpI_iff {G : jZ} : rpI F us bl z el H lc ty m0 G σ R ↔ ∀ b r, R b = some r → rpR F us bl z el H lc ty m0 G σ b r := Iff.rfl
/-- two rows are joined -/
theorem rpR_j {G : jZ} {b : Nat} {r w : jQ} (hps : ∀ y, bl[b]? = some y → ∀ k, k < y.ps.length → y.ps.getD k 0 = 1 ∨ 2 ≤ y.ps.getD k 0) (h : rpR F us bl z el H lc ty m0 G σ b r) (k : rpR F us bl z el H lc ty m0 G σ b w) : rpR F us bl z el H lc ty m0 G σ b (fun k => wJn (r k) (w k)) := by
  obtain ⟨y, e, x', t', a1, a2, a3, a4, a5, a6, a7, a8, a9⟩ := h
  obtain ⟨y2, e2, x2, t2, b1, b2, b3, b4, b5, b6, b7, b8, b9⟩ := k
  rw [a1] at b1
  cases b1
  rw [a2] at b2
  cases b2
  rw [a4] at b4
  cases b4
  refine ⟨y, e, x', t', a1, a2, a3, a4, wJn_w a5 b5, fun k hk => ?_, fun k hk => wJn_v (hps y a1 k hk) (a7 k hk) (b7 k hk), fun k => wI_J (a8 k) (b8 k), fun B τ hB => ?_⟩
  · dsimp only
    rw [a6 k hk, b6 k hk]
    rfl
  · obtain ⟨t, q1, q2⟩ := a9 B τ hB
    obtain ⟨t3, q3, q4⟩ := b9 B τ hB
    rw [q1] at q3
    cases q3
    exact ⟨t, q1, fun k => wJn_lub (q2 k) (q4 k)⟩
theorem rpI_nx {G : jZ} {N : Nat} (hps : ∀ (b : Nat) (y : jB), bl[b]? = some y → ∀ k, k < y.ps.length → y.ps.getD k 0 = 1 ∨ 2 ≤ y.ps.getD k 0) (h : rpI F us bl z el H lc ty m0 G σ R) (hE : ∀ b, m b = true → rpR F us bl z el H lc ty m0 G σ b (E b)) : rpI F us bl z el H lc ty m0 G σ (nxR R m E N) := fun b r q => by
  rw [nxR_at] at q
  by_cases c : b < N ∧ m b = true
  · rw [if_pos c] at q
    cases q
    cases hq : R b with
    | none => exact hE b c.2
    | some r => exact rpR_j (hps b) (h b r hq) (hE b c.2)
  · rw [if_neg c] at q
    exact h b r q
/-- the reference's view of the rows afterwards -/
theorem rRm_nx {N : Nat} (hl : bl.length ≤ N) (hR : rRm S P bl R) (h1 : ∀ (b : Nat) (y : jB), bl[b]? = some y → m b = false → T.1 (P + 44) b = S.1 (P + 44) b ∧ ∀ k, k < 12 → ∀ a, P + 39 ≤ a → a ≤ P + 42 → T.1 a (2700 + b * 12 + k) = S.1 a (2700 + b * 12 + k)) (hps : ∀ (b : Nat) (y : jB), bl[b]? = some y → y.ps.length ≤ 12) (h2 : ∀ (b : Nat) (y : jB), bl[b]? = some y → m b = true → T.1 (P + 44) b = 1 ∧ ∀ r, nxR R m E N b = some r → ∀ k, k < y.ps.length → rVo T P (2700 + b * 12 + k) (some (r k))) : rRm T P bl (nxR R m E N) := fun b y hy => by
  have hb := at_lt hy
  cases hm : m b with
  | false =>
    obtain ⟨q1, q2⟩ := h1 b y hy hm
    have e : nxR R m E N b = R b := by rw [nxR_at, if_neg (fun w => by rw [hm] at w; cases w.2)]
    rw [e, q1]
    have := hps b y hy
    exact ⟨(hR b y hy).1, fun w j hj => rVo_c (fun a a1 a2 => q2 j hj a a1 a2) ((hR b y hy).2.1 w j hj), fun r w j hj => rVo_c (fun a a1 a2 => q2 j (by omega) a a1 a2) ((hR b y hy).2.2 r w j hj)⟩
  | true =>
    obtain ⟨q1, q2⟩ := h2 b y hy hm
    have e : ∃ r, nxR R m E N b = some r := ⟨_, by rw [nxR_at, if_pos ⟨by omega, hm⟩]⟩
    obtain ⟨r, hr⟩ := e
    refine ⟨by rw [q1, hr]; rfl, fun w => (by rw [hr] at w; cases w), fun r' w j hj => q2 r' w j hj⟩
end RBN
