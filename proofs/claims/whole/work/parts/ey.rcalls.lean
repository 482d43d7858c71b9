/-! The reference calls: all bodies that are meant. -/
def pmB (c : Nat) : Nat := 2700 + c * 12
def moC (k0 N low : Nat) (X : jQ) (m : Nat → Bool) (π : Nat → Nat → Option jW) (be : Nat → Bool) (b : Nat) : Prop := ∃ c, c < b ∧ m c = true ∧ (be c = false ∨ pmC k0 N low X (π c))
/-- the bodies before b are called -/
def moI (P : Nat) (S : nk_S) (N low k0 : Nat) (X : jQ) (m : Nat → Bool) (π : Nat → Nat → Option jW) (be ce : Nat → Bool) (tt : Nat → Nat → Bool) (thr : Nat → Bool) (b : Nat) (T : nk_S) (l8 : Int) (ch : Bool) : Prop :=
  (T.2 = S.2 ∧ (∀ a, a < P + 39 ∨ P + 42 < a → a ≠ 121 → a ≠ P + 44 → T.1 a = S.1 a) ∧ (∀ f, f ≠ 37 → f ≠ 40 → T.1 121 f = S.1 121 f))
  ∧ (∀ a j, P + 39 ≤ a → a ≤ P + 42 → (∀ c k, c < b → m c = true → k0 ≤ k → k < N → j ≠ pmB c + k) → T.1 a j = S.1 a j)
  ∧ (∀ j, j < 48 → T.1 (P + 44) j = if j < b ∧ m j = true then 1 else S.1 (P + 44) j)
  ∧ (∀ c k, c < b → m c = true → k0 ≤ k → k < N → rVo T P (pmB c + k) (oJ (π c k) (some (wBr (X (low + k))))))
  ∧ cV (T.1 121 40) (fun s => thr s || exB (fun c => m c && tt c s) b)
  ∧ cV l8 (fun c => decide (c < b) && (m c && ce c))
  ∧ T.1 121 37 = (if ch = true then 1 else S.1 121 37) ∧ (ch = true ↔ moC k0 N low X m π be b)
section RCM
variable {F : Int → Prop} {S : nk_S} {P : Nat} {N low k0 NB : Nat} {X : jQ} {m : Nat → Bool} {π : Nat → Nat → Option jW} {be ce : Nat → Bool} {tt : Nat → Nat → Bool} {thr : Nat → Bool}
theorem pmB_ne {c c' k k' : Nat} (hk : k < 12) (hk' : k' < 12) (h : c ≠ c') : pmB c + k ≠ pmB c' + k' := by unfold pmB; omega
/-- a body that is not meant is passed by -/
theorem moI_0 {b : Nat} {T : nk_S} {l8 : Int} {ch : Bool} (hm : m b = false) (h : moI P S N low k0 X m π be ce tt thr b T l8 ch) : moI P S N low k0 X m π be ce tt thr (b + 1) T l8 ch := by
  obtain ⟨h1, h2, h3, h4, h5, h6, h7, h8⟩ := h
  have lt : ∀ c, c < b + 1 → m c = true → c < b := fun c q1 q2 => by
    by_cases e : c = b
    · rw [e, hm] at q2; cases q2
    · omega
  refine ⟨h1, fun a j a1 a2 q => h2 a j a1 a2 (fun c k c1 => q c k (by omega)), fun j hj => ?_, fun c k c1 c2 => h4 c k (lt c c1 c2) c2, cV_e h5 (fun s _ => ?_), cV_e h6 (fun c _ => ?_), h7, ?_⟩
  · rw [h3 j hj]
    by_cases e : j < b ∧ m j = true
    · rw [if_pos e, if_pos ⟨by omega, e.2⟩]
    · rw [if_neg e, if_neg (fun q => e ⟨lt j q.1 q.2, q.2⟩)]
  · show _ = (_ || (exB _ b || (m b && tt b s)))
    rw [hm, Bool.false_and, Bool.or_false]
  · by_cases e : c = b
    · rw [e, hm, Bool.false_and, Bool.and_false, Bool.and_false]
    · by_cases q : c < b
      · rw [decide_eq_true q, decide_eq_true (show c < b + 1 by omega)]
      · rw [decide_eq_false q, decide_eq_false (show ¬ c < b + 1 by omega)]
  · rw [h8]
    unfold moC
    constructor
    · rintro ⟨c, c1, c2, c3⟩
      exact ⟨c, by omega, c2, c3⟩
    · rintro ⟨c, c1, c2, c3⟩
      exact ⟨c, lt c c1 c2, c2, c3⟩
theorem r_moS (hP : P = 122 ∨ P = 168) (hNB : NB ≤ 48) (hN : N ≤ 12) (hk0 : k0 ≤ N) (hl : low + N ≤ 24) (hw : ∀ k, k < N → rSo S rWk (low + k) (X (low + k)) ∧ wOk F (X (low + k)) ∧ (X (low + k)).1 ≠ 0) (hπ : ∀ c k, c < NB → m c = true → k0 ≤ k → k < N → rVo S P (pmB c + k) (π c k) ∧ ∀ v, π c k = some v → vBr F v ∧ v.1 = (X (low + k)).1) (hbe : ∀ c, c < NB → S.1 (P + 44) c = bi (be c)) (hce : ∀ c, c < NB → S.1 (P + 43) c = bi (ce c)) (htt : ∀ c, c < NB → cV (S.1 (P + 45) c) (tt c)) {rc : Nat → Nat → Int → Int → Int → Int → Int → Int → Int → nk_S → Option (Int × nk_S)} {l2 l3 l6 l8 : Int} {b : Nat} (hb : b < NB) (hm : m b = true) {T : nk_S} {ch : Bool} (h : moI P S N low k0 X m π be ce tt thr b T l8 ch) : ∃ T' l8' ch', ja_X13_call_L169 rc nk_big 121 P l2 l3 (N : Int) (low : Int) l6 l8 (b : Int) (k0 : Int) T = rc 121 P l2 l3 (N : Int) (low : Int) l6 l8' ((b + 1 : Nat) : Int) T' ∧ moI P S N low k0 X m π be ce tt thr (b + 1) T' l8' ch' := by
  obtain ⟨⟨f1, f2, f3⟩, h2, h3, h4, h5, h6, h7, h8⟩ := h
  have hBe : pmB b = 2700 + b * 12 := rfl
  have oth : ∀ k, k < 12 → ∀ a, P + 39 ≤ a → a ≤ P + 42 → T.1 a (pmB b + k) = S.1 a (pmB b + k) := fun k hk a a1 a2 => h2 a _ a1 a2 (fun c k' c1 c2 c3 c4 => pmB_ne hk (by omega) (by omega))
  obtain ⟨T', l8', c', g1, g2, g3, ⟨g4, g5, g6, g7, g8⟩, g9, g10, g11, g12⟩ := r_pb (S := T) (F := F) (rc := rc) hP (to := b) (N := N) (low := low) (k0 := k0) (B := pmB b) (by omega) hBe hN hk0 hl (X := X) (fun k hk => ⟨rSo_c (fun j hj => by rw [f2 (rWk j) (by unfold rWk; omega) (by unfold rWk; omega) (by unfold rWk; omega)]) (hw k hk).1, (hw k hk).2⟩) (π := π b) (fun k k1 k2 => ⟨rVo_c (fun a a1 a2 => oth k (by omega) a a1 a2) (hπ b k hb hm k1 k2).1, (hπ b k hb hm k1 k2).2⟩) (l2 := l2) (l3 := l3) (l6 := l6) h6 h5 (be := be b) (ce := ce b) (by rw [h3 b (by omega), if_neg (by omega)]; exact hbe b hb) (by rw [f2 (P + 43) (by omega) (by omega) (by omega)]; exact hce b hb) (tt := tt b) (by rw [f2 (P + 45) (by omega) (by omega) (by omega)]; exact htt b hb)
  have hE : ∀ c k, c < b → k < N → (pmB c + k < pmB b + k0 ∨ pmB b + N ≤ pmB c + k) := fun c k c1 c2 => by unfold pmB; omega
  refine ⟨T', l8', (ch || c'), g1, ⟨by rw [g4, f1], fun a a1 a2 a3 => by rw [g5 a a1 a2 a3, f2 a a1 a2 a3], fun f f4 f5 => by rw [g6 f f4 f5, f3 f f4 f5]⟩, fun a j a1 a2 q => ?_, fun j hj => ?_, fun c k c1 c2 c3 c4 => ?_, cV_e g3 (fun s _ => ?_), cV_e g2 (fun c _ => ?_), ?_, ?_⟩
  · have hj : j < pmB b + k0 ∨ pmB b + N ≤ j := by
      by_cases e : j < pmB b + k0 ∨ pmB b + N ≤ j
      · exact e
      · exfalso
        refine q b (j - pmB b) (by omega) hm (by omega) (by omega) (by omega)
    rw [g7 a j hj (by omega) (by omega)]
    exact h2 a j a1 a2 (fun c k c1 => q c k (by omega))
  · by_cases e : j = b
    · rw [e, g9, if_pos ⟨by omega, hm⟩]
    · rw [g8 j e, h3 j hj]
      by_cases q : j < b ∧ m j = true
      · rw [if_pos q, if_pos ⟨by omega, q.2⟩]
      · rw [if_neg q, if_neg (fun w => q ⟨by omega, w.2⟩)]
  · by_cases e : c = b
    · rw [e]; exact g10 k c3 c4
    · exact rVo_c (fun a a1 a2 => g7 a _ (hE c k (by omega) c4) (by omega) (by omega)) (h4 c k (by omega) c2 c3 c4)
  · show ((thr s || exB _ b) || tt b s) = (thr s || (exB _ b || (m b && tt b s)))
    rw [hm, Bool.true_and, Bool.or_assoc]
  · by_cases e : c = b
    · rw [e]
      cases hc : ce b with
      | false =>
        rw [if_neg (show ¬ false = true by decide), Bool.and_false, Bool.and_false, decide_eq_false (show ¬ b < b by omega), Bool.false_and]
      | true =>
        rw [if_pos rfl, hm, decide_eq_true (show b < b + 1 by omega)]
        show (_ || decide (b = b)) = _
        rw [decide_eq_true rfl, Bool.or_true]
        rfl
    · have e2 : decide (c < b + 1) = decide (c < b) := by
        by_cases q : c < b
        · rw [decide_eq_true q, decide_eq_true (show c < b + 1 by omega)]
        · rw [decide_eq_false q, decide_eq_false (show ¬ c < b + 1 by omega)]
      rw [e2]
      cases hc : ce b with
      | false => rw [if_neg (show ¬ false = true by decide)]
      | true =>
        rw [if_pos rfl]
        show (_ || decide (c = b)) = _
        rw [decide_eq_false e, Bool.or_false]
  · rw [g11, h7]
    cases ch <;> cases c' <;> rfl
  · rw [Bool.or_eq_true, h8, g12]
    unfold moC
    constructor
    · rintro (⟨c, c1, c2, c3⟩ | q)
      · exact ⟨c, by omega, c2, c3⟩
      · exact ⟨b, by omega, hm, q⟩
    · rintro ⟨c, c1, c2, c3⟩
      by_cases e : c = b
      · rw [e] at c3; exact Or.inr c3
      · exact Or.inl ⟨c, by omega, c2, c3⟩
theorem r_moL (hP : P = 122 ∨ P = 168) (hNB : NB ≤ 48) (hP2 : S.1 P 2 = (NB : Int)) (hN : N ≤ 12) (hk0 : k0 ≤ N) (hk1 : k0 ≤ 1) (hl : low + N ≤ 24) (hw : ∀ k, k < N → rSo S rWk (low + k) (X (low + k)) ∧ wOk F (X (low + k)) ∧ (X (low + k)).1 ≠ 0) (hπ : ∀ c k, c < NB → m c = true → k0 ≤ k → k < N → rVo S P (pmB c + k) (π c k) ∧ ∀ v, π c k = some v → vBr F v ∧ v.1 = (X (low + k)).1) (hbe : ∀ c, c < NB → S.1 (P + 44) c = bi (be c)) (hce : ∀ c, c < NB → S.1 (P + 43) c = bi (ce c)) (htt : ∀ c, c < NB → cV (S.1 (P + 45) c) (tt c)) {l2 l6 : Int} (h6 : cV l6 m) : ∀ (d b mm : Nat) (T : nk_S) (l8 : Int) (ch : Bool), b + d = NB → d < mm → moI P S N low k0 X m π be ce tt thr b T l8 ch → ∃ T' l8' ch' mm', ja_X13_call_L134 mm 121 P l2 (k0 : Int) (N : Int) (low : Int) l6 l8 (b : Int) T = ja_X13_call_b134 (ja_X13_call_L134 mm') 121 P l2 (k0 : Int) (N : Int) (low : Int) l6 l8' (NB : Int) T' ∧ moI P S N low k0 X m π be ce tt thr NB T' l8' ch' := by
  intro d
  induction d with
  | zero =>
    intro b mm T l8 ch h1 h2 h
    obtain ⟨mm, rfl⟩ : ∃ q, mm = q + 1 := ⟨mm - 1, by omega⟩
    obtain rfl : b = NB := by omega
    exact ⟨T, l8, ch, mm, rfl, h⟩
  | succ d ih =>
    intro b mm T l8 ch h1 h2 h
    obtain ⟨mm, rfl⟩ : ∃ q, mm = q + 1 := ⟨mm - 1, by omega⟩
    have es : ∀ _ : Unit, nk_w ((b : Int) + 1) = ((b + 1 : Nat) : Int) := fun _ => w_nat1 (by omega)
    have hT2 : T.1 P 2 = (NB : Int) := by rw [h.1.2.1 P (by omega) (by omega) (by omega)]; exact hP2
    cases hm : m b with
    | false =>
      obtain ⟨T', l8', ch', mm', g1, g2⟩ := ih (b + 1) mm T l8 ch (by omega) (by omega) (moI_0 hm h)
      refine ⟨T', l8', ch', mm', ?_, g2⟩
      rw [← g1]
      show ja_X13_call_b134 (ja_X13_call_L134 mm) 121 P l2 (k0 : Int) (N : Int) (low : Int) l6 l8 (b : Int) T = _
      conv => lhs; unfold ja_X13_call_b134
      rw [hT2, if_neg (by omega), r_bit h6 (by omega), hm, if_pos (show bi false = 0 from rfl), es (), lt_eq]
    | true =>
      obtain ⟨T1, l1, c1, s1, s2⟩ := r_moS (F := F) (NB := NB) hP hNB hN hk0 hl hw hπ hbe hce htt (rc := ja_X13_call_L134 mm) (l2 := l2) (l3 := (k0 : Int)) (l6 := l6) (l8 := l8) (b := b) (by omega) hm h
      obtain ⟨T', l8', ch', mm', g1, g2⟩ := ih (b + 1) mm T1 l1 c1 (by omega) (by omega) s2
      refine ⟨T', l8', ch', mm', ?_, g2⟩
      rw [← g1, ← s1]
      show ja_X13_call_b134 (ja_X13_call_L134 mm) 121 P l2 (k0 : Int) (N : Int) (low : Int) l6 l8 (b : Int) T = _
      conv => lhs; unfold ja_X13_call_b134
      rw [hT2, if_neg (by omega), r_bit h6 (by omega), hm, if_neg (show ¬ bi true = 0 by decide)]
      by_cases e : k0 = 0
      · rw [if_pos (show (k0 : Int) = 0 by omega), e]
        rfl
      · have e1 : k0 = 1 := by omega
        rw [if_neg (show ¬ (k0 : Int) = 0 by omega), e1]
        rfl
end RCM
