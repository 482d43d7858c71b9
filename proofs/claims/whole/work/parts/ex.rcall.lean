/-! The reference calls: what bodies are begun with. -/
/-- parameters of one body change -/
def pmF (P lo hi : Nat) (S S' : nk_S) : Prop := S'.2 = S.2 ∧ (∀ a, a < P + 39 ∨ P + 42 < a → a ≠ 121 → S'.1 a = S.1 a) ∧ (∀ f, f ≠ 37 → S'.1 121 f = S.1 121 f) ∧ ∀ a j, (j < lo ∨ hi ≤ j) → a ≠ 121 → S'.1 a j = S.1 a j
/-- a parameter becomes more -/
def pmC (k0 N low : Nat) (X : jQ) (π : Nat → Option jW) : Prop := ∃ j, k0 ≤ j ∧ j < N ∧ oJ (π j) (some (wBr (X (low + j)))) ≠ π j
section RCL
variable {F : Int → Prop} {S T : nk_S} {P : Nat}
theorem pmF_rfl {lo hi : Nat} : pmF P lo hi S S := ⟨rfl, fun _ _ _ => rfl, fun _ _ => rfl, fun _ _ _ _ => rfl⟩
theorem pmF_v {lo hi k : Nat} {S1 S2 S3 : nk_S} (h : pmF P lo hi S1 S2) (q : vFr P k S2 S3) (hk : lo ≤ k ∧ k < hi) : pmF P lo hi S1 S3 := ⟨q.1.trans h.1, fun a r x => (q.2.1 a r x).trans (h.2.1 a r x), fun f r => (q.2.2.1 f r).trans (h.2.2.1 f r), fun a j r x => (q.2.2.2 a j (by omega) x).trans (h.2.2.2 a j r x)⟩
theorem r_pmL (hP : P = 122 ∨ P = 168) {rc : Nat → Nat → Int → Int → Int → Int → Int → Int → Int → nk_S → Option (Int × nk_S)} {to N low k0 B : Nat} (ht : to < 48) (hB : B = 2700 + to * 12) (hN : N ≤ 12) (hl : low + N ≤ 24) {X : jQ} (hw : ∀ k, k < N → rSo S rWk (low + k) (X (low + k)) ∧ wOk F (X (low + k)) ∧ (X (low + k)).1 ≠ 0) {π : Nat → Option jW} (hπ : ∀ k, k0 ≤ k → k < N → rVo S P (B + k) (π k) ∧ ∀ v, π k = some v → vBr F v ∧ v.1 = (X (low + k)).1) {l2 l3 l6 l8 : Int} : ∀ (d k m : Nat) (T : nk_S) (ch : Bool), k + d = N → k0 ≤ k → d < m → pmF P (B + k0) (B + N) S T → (∀ j, k0 ≤ j → j < k → rVo T P (B + j) (oJ (π j) (some (wBr (X (low + j)))))) → (∀ j, k ≤ j → j < N → ∀ a, P + 39 ≤ a → a ≤ P + 42 → T.1 a (B + j) = S.1 a (B + j)) → T.1 121 37 = (if ch = true then 1 else S.1 121 37) → (ch = true ↔ pmC k0 k low X π) → ∃ T' ch' m', ja_X13_call_L169 rc m 121 P l2 l3 (N : Int) (low : Int) l6 l8 (to : Int) (k : Int) T = ja_X13_call_b169 rc (ja_X13_call_L169 rc m') 121 P l2 l3 (N : Int) (low : Int) l6 l8 (to : Int) (N : Int) T' ∧ pmF P (B + k0) (B + N) S T' ∧ (∀ j, k0 ≤ j → j < N → rVo T' P (B + j) (oJ (π j) (some (wBr (X (low + j)))))) ∧ T'.1 121 37 = (if ch' = true then 1 else S.1 121 37) ∧ (ch' = true ↔ pmC k0 N low X π) := by
  intro d
  induction d with
  | zero =>
    intro k m T ch h1 h2 h3 h4 h5 h6 h7 h8
    obtain ⟨m, rfl⟩ : ∃ q, m = q + 1 := ⟨m - 1, by omega⟩
    obtain rfl : k = N := by omega
    exact ⟨T, ch, m, rfl, h4, h5, h7, h8⟩
  | succ d ih =>
    intro k m T ch h1 h2 h3 h4 h5 h6 h7 h8
    obtain ⟨m, rfl⟩ : ∃ q, m = q + 1 := ⟨m - 1, by omega⟩
    have es : ∀ _ : Unit, nk_w ((k : Int) + 1) = ((k + 1 : Nat) : Int) := fun _ => w_nat1 (by omega)
    have ei : ∀ _ : Unit, nk_w (nk_w (2700 + nk_w ((to : Int) * 12)) + (k : Int)) = ((B + k : Nat) : Int) := fun _ => pm_ix ht (by omega) (by omega)
    have el : ∀ _ : Unit, nk_w ((low : Int) + (k : Int)) = ((low + k : Nat) : Int) := fun _ => by
      rw [nk_w_id (z := (low : Int) + (k : Int)) (by omega) (by omega)]; omega
    obtain ⟨w1, w2, w3⟩ := hw k (by omega)
    obtain ⟨p1, p2⟩ := hπ k h2 (by omega)
    have hBk : B + k < 3324 := by omega
    have p1' : rVo T P (B + k) (π k) := rVo_c (fun a q1 q2 => h6 k (Nat.le_refl _) (by omega) a q1 q2) p1
    have w1' : rSo T rWk (low + k) (X (low + k)) := rSo_c (fun j hj => by rw [h4.2.1 (rWk j) (by unfold rWk; omega) (by unfold rWk; omega)]) w1
    obtain ⟨T1, c, g1, g2, g3, g4, g5⟩ := jn_slot hP hBk (by omega) p1' w2 w1' w3 p2
    obtain ⟨T', ch', m', r1, r2⟩ := ih (k + 1) m T1 (ch || c) (by omega) (by omega) (by omega) (pmF_v h4 g2 (by omega)) (fun j j1 j2 => by
      by_cases e : j = k
      · rw [e]; exact g3
      · exact rVo_c (fun a q1 q2 => g2.2.2.2 a (B + j) (by omega) (by omega)) (h5 j j1 (by omega))) (fun j j1 j2 a q1 q2 => by rw [g2.2.2.2 a (B + j) (by omega) (by omega)]; exact h6 j (by omega) j2 a q1 q2) (by
      rw [g4, h7]
      cases ch <;> cases c <;> rfl) (by
      rw [Bool.or_eq_true, h8, g5]
      constructor
      · rintro (⟨j, j1, j2, j3⟩ | q)
        · exact ⟨j, j1, by omega, j3⟩
        · exact ⟨k, h2, by omega, q⟩
      · rintro ⟨j, j1, j2, j3⟩
        by_cases e : j = k
        · rw [e] at j3; exact Or.inr j3
        · exact Or.inl ⟨j, j1, by omega, j3⟩)
    refine ⟨T', ch', m', ?_, r2⟩
    show ja_X13_call_b169 rc (ja_X13_call_L169 rc m) 121 P l2 l3 (N : Int) (low : Int) l6 l8 (to : Int) (k : Int) T = _
    rw [← r1]
    conv => lhs; unfold ja_X13_call_b169
    rw [if_neg (by omega), ei (), el (), g1, bd_some, es (), lt_eq]
/-- one body is called -/
theorem r_pb (hP : P = 122 ∨ P = 168) {rc : Nat → Nat → Int → Int → Int → Int → Int → Int → Int → nk_S → Option (Int × nk_S)} {to N low k0 B : Nat} (ht : to < 48) (hB : B = 2700 + to * 12) (hN : N ≤ 12) (hk0 : k0 ≤ N) (hl : low + N ≤ 24) {X : jQ} (hw : ∀ k, k < N → rSo S rWk (low + k) (X (low + k)) ∧ wOk F (X (low + k)) ∧ (X (low + k)).1 ≠ 0) {π : Nat → Option jW} (hπ : ∀ k, k0 ≤ k → k < N → rVo S P (B + k) (π k) ∧ ∀ v, π k = some v → vBr F v ∧ v.1 = (X (low + k)).1) {l2 l3 l6 : Int} {ends thr : Nat → Bool} {l8 : Int} (he : cV l8 ends) (hth : cV (S.1 121 40) thr) {be ce : Bool} (hbe : S.1 (P + 44) to = bi be) (hce : S.1 (P + 43) to = bi ce) {tt : Nat → Bool} (htt : cV (S.1 (P + 45) to) tt) : ∃ T' l8' ch, ja_X13_call_L169 rc nk_big 121 P l2 l3 (N : Int) (low : Int) l6 l8 (to : Int) (k0 : Int) S = rc 121 P l2 l3 (N : Int) (low : Int) l6 l8' ((to + 1 : Nat) : Int) T' ∧ cV l8' (if ce = true then sOr ends (onS to) else ends) ∧ cV (T'.1 121 40) (sOr thr tt) ∧ (T'.2 = S.2 ∧ (∀ a, a < P + 39 ∨ P + 42 < a → a ≠ 121 → a ≠ P + 44 → T'.1 a = S.1 a) ∧ (∀ f, f ≠ 37 → f ≠ 40 → T'.1 121 f = S.1 121 f) ∧ (∀ a j, (j < B + k0 ∨ B + N ≤ j) → a ≠ 121 → a ≠ P + 44 → T'.1 a j = S.1 a j) ∧ (∀ j, j ≠ to → T'.1 (P + 44) j = S.1 (P + 44) j)) ∧ T'.1 (P + 44) to = 1 ∧ (∀ j, k0 ≤ j → j < N → rVo T' P (B + j) (oJ (π j) (some (wBr (X (low + j)))))) ∧ T'.1 121 37 = (if ch = true then 1 else S.1 121 37) ∧ (ch = true ↔ be = false ∨ pmC k0 N low X π) := by
  obtain ⟨c46, c47, c48, c49, c50, c51, c52⟩ := jc_Pv hP
  obtain ⟨bm, hbm⟩ := big_ge 100 (by decide)
  have es : ∀ _ : Unit, nk_w ((to : Int) + 1) = ((to + 1 : Nat) : Int) := fun _ => w_nat1 (by omega)
  obtain ⟨T1, c1, m', g1, g2, g3, g4, g5⟩ := r_pmL (S := S) (rc := rc) (F := F) hP ht hB hN hl hw hπ (l2 := l2) (l3 := l3) (l6 := l6) (l8 := l8) (N - k0) k0 nk_big S false (by omega) (Nat.le_refl _) (by omega) pmF_rfl (fun j j1 j2 => by omega) (fun j _ _ a _ _ => rfl) (by rw [if_neg (by decide)]) ⟨fun q => (by cases q), fun ⟨j, j1, j2, _⟩ => by omega⟩
  have n1 : ∀ a, a < P + 39 ∨ P + 42 < a → a ≠ 121 → T1.1 a = S.1 a := g2.2.1
  obtain ⟨T2, hT2⟩ : ∃ T2, T2 = (if be = true then T1 else nk_wi T1 121 37 1) := ⟨_, rfl⟩
  have m2 : ∀ a, a ≠ 121 → T2.1 a = T1.1 a := fun a h => by
    rw [hT2]; split
    · rfl
    · rw [wi_n h]
  have m2f : ∀ f, f ≠ 37 → T2.1 121 f = T1.1 121 f := fun f h => by
    rw [hT2]; split
    · rfl
    · rw [wi_at, if_neg h]
  have m22 : T2.2 = T1.2 := by rw [hT2]; split <;> rfl
  obtain ⟨T3, hT3⟩ : ∃ T3, T3 = nk_wi T2 (P + 44) to 1 := ⟨_, rfl⟩
  obtain ⟨T4, hT4⟩ : ∃ T4, T4 = nk_wi T3 121 40 (nk_lor (T3.1 121 40) (T3.1 (P + 45) to)) := ⟨_, rfl⟩
  have n3 : ∀ a, a ≠ P + 44 → T3.1 a = T2.1 a := fun a h => by rw [hT3, wi_n h]
  have n4 : ∀ a, a ≠ 121 → T4.1 a = T3.1 a := fun a h => by rw [hT4, wi_n h]
  have t40 : T3.1 121 40 = S.1 121 40 := by rw [n3 121 (by omega), m2f 40 (by decide), g2.2.2.1 40 (by decide)]
  have t45 : T3.1 (P + 45) to = S.1 (P + 45) to := by rw [n3 (P + 45) (by omega), m2 (P + 45) (by omega), n1 (P + 45) (by omega) (by omega)]
  have t43 : T3.1 (P + 43) to = bi ce := by rw [n3 (P + 43) (by omega), m2 (P + 43) (by omega), n1 (P + 43) (by omega) (by omega)]; exact hce
  have b246 : ∀ l : Int, ja_X13_call_b246 rc 121 P l2 l3 (N : Int) (low : Int) l6 l (to : Int) T3 = rc 121 P l2 l3 (N : Int) (low : Int) l6 l ((to + 1 : Nat) : Int) T4 := fun l => by
    unfold ja_X13_call_b246
    rw [if_pos (in_i (N := 48) (by omega)), c52, Int.toNat_natCast, lt_eq, es (), lt_eq, ← hT4]
  have b219 : ja_X13_call_b219 rc 121 P l2 l3 (N : Int) (low : Int) l6 l8 (to : Int) T2 = rc 121 P l2 l3 (N : Int) (low : Int) l6 (if ce = true then nk_lor l8 (nk_lshl 1 (to : Int)) else l8) ((to + 1 : Nat) : Int) T4 := by
    unfold ja_X13_call_b219
    rw [if_pos (in_i (N := 48) (by omega)), c51, c50, Int.toNat_natCast, lt_eq, ← hT3, t43]
    cases ce with
    | false => rw [if_pos (show bi false = 0 from rfl), b246, if_neg (show ¬ false = true by decide)]
    | true => rw [if_neg (show ¬ bi true = 0 by decide), lt_eq, b246, if_pos rfl]
  refine ⟨T4, if ce = true then nk_lor l8 (nk_lshl 1 (to : Int)) else l8, (!be || c1), ?_, ?_, ?_, ⟨?_, fun a h1 h2 h3 => by rw [n4 a h2, n3 a h3, m2 a h2, n1 a h1 h2], fun f h1 h2 => ?_, fun a j h1 h2 h3 => by rw [n4 a h2, n3 a h3, m2 a h2, g2.2.2.2 a j h1 h2], fun j hj => by rw [n4 (P + 44) (by omega), hT3, wi_at, if_neg hj, m2 (P + 44) (by omega), n1 (P + 44) (by omega) (by omega)]⟩, by rw [n4 (P + 44) (by omega), hT3, wi_at, if_pos rfl], fun j j1 j2 => rVo_c (fun a h1 h2 => by rw [n4 a (by omega), n3 a (by omega), m2 a (by omega)]) (g3 j j1 j2), ?_, ?_⟩
  · rw [g1]
    unfold ja_X13_call_b169
    rw [if_pos (Int.le_refl _), if_pos (in_i (N := 48) (by omega)), c51, Int.toNat_natCast, n1 (P + 44) (by omega) (by omega), hbe]
    cases be with
    | false =>
      have hT2 : T2 = nk_wi T1 121 37 1 := hT2
      rw [if_pos (show bi false = 0 from rfl), lt_eq, ← hT2, b219]
    | true =>
      have hT2 : T2 = T1 := hT2
      rw [if_neg (show ¬ bi true = 0 by decide), ← hT2, b219]
  · cases ce with
    | false => rw [if_neg (show ¬ false = true by decide), if_neg (show ¬ false = true by decide)]; exact he
    | true => rw [if_pos rfl, if_pos rfl]; exact cV_or he (cV_one (by omega))
  · rw [hT4, wi_at, if_pos rfl, t40, t45]
    exact cV_or hth htt
  · rw [hT4, hT3]
    show T2.2 = S.2
    rw [m22]; exact g2.1
  · rw [hT4, wi_at, if_neg h2, n3 121 (by omega), m2f f h1, g2.2.2.1 f h1]
  · rw [hT4, wi_at, if_neg (by decide), n3 121 (by omega), hT2]
    cases be with
    | false => rw [if_neg (show ¬ false = true by decide), wi_at, if_pos rfl]; rfl
    | true => rw [if_pos rfl, g4]; rfl
  · rw [Bool.or_eq_true, g5]
    cases be with
    | false => exact ⟨fun _ => Or.inl rfl, fun _ => Or.inl rfl⟩
    | true =>
      constructor
      · rintro (q | q)
        · cases q
        · exact Or.inr q
      · rintro (q | q)
        · cases q
        · exact Or.inr q
end RCL
