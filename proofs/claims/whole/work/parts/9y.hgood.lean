/-! Heights: where nothing changes any more, they fit together. -/
theorem hAdd_f {q : (Nat → Nat) × Bool} {j g : Nat} (h : (hAdd q j g).2 = false) : hAdd q j g = q ∧ q.1 j ||| g = q.1 j := by
  unfold hAdd at h ⊢
  by_cases c : q.1 j ||| g = q.1 j
  · rw [if_pos c]; exact ⟨rfl, c⟩
  · rw [if_neg c] at h; cases h
theorem hCt_f {kl : List (Nat × Nat × Nat × Nat × Nat)} {i : Nat} : ∀ (n k : Nat) (q : (Nat → Nat) × Bool), (hCt kl i n k q).2 = false → hCt kl i n k q = q ∧ ∀ j y, k ≤ j → j < k + n → kl[j]? = some y → y.2.1 ≤ i → i < y.2.2.1 → q.1 y.2.2.2.1 ||| 2 = q.1 y.2.2.2.1 := by
  intro n
  induction n with
  | zero => intro k q h; exact ⟨rfl, fun j y h1 h2 => by omega⟩
  | succ n ih =>
    intro k q h
    rw [hCt] at h ⊢
    obtain ⟨i1, i2⟩ := ih (k + 1) _ h
    rw [i1] at h ⊢
    cases hy : kl[k]? with
    | none =>
      rw [hy] at i2 h
      refine ⟨rfl, fun j y h1 h2 h3 => ?_⟩
      by_cases c : j = k
      · rw [c, hy] at h3; cases h3
      · exact i2 j y (by omega) (by omega) h3
    | some w =>
      rw [hy] at i2 h
      dsimp only at i2 h ⊢
      by_cases c : w.2.1 ≤ i ∧ i < w.2.2.1
      · rw [if_pos c] at i2 h ⊢
        obtain ⟨a1, a2⟩ := hAdd_f h
        rw [a1] at i2 ⊢
        refine ⟨rfl, fun j y h1 h2 h3 h4 h5 => ?_⟩
        by_cases c' : j = k
        · rw [c', hy] at h3; cases h3; exact a2
        · exact i2 j y (by omega) (by omega) h3 h4 h5
      · rw [if_neg c] at i2 h ⊢
        refine ⟨rfl, fun j y h1 h2 h3 h4 h5 => ?_⟩
        by_cases c' : j = k
        · rw [c', hy] at h3; cases h3; exact absurd ⟨h4, h5⟩ c
        · exact i2 j y (by omega) (by omega) h3 h4 h5
/-- nothing is added at an instruction -/
def hCl (bl : List jB) (kl : List (Nat × Nat × Nat × Nat × Nat)) (cs ce : Nat) (M : Nat → Nat) (i : Nat) (x : jC) : Prop := hGd (M i) (tkX bl x) (lvX bl x) ≠ 0 → (fal x.1 = true → M (i + 1) ||| hGd (M i) (tkX bl x) (lvX bl x) = M (i + 1)) ∧ (19 ≤ x.1 ∧ x.1 ≤ 29 → M x.2.1.toNat ||| hGd (M i) (tkX bl x) (lvX bl x) = M x.2.1.toNat) ∧ ∀ j y, cs ≤ j → j < ce → kl[j]? = some y → y.2.1 ≤ i → i < y.2.2.1 → M y.2.2.2.1 ||| 2 = M y.2.2.2.1
theorem hSp_f {bl : List jB} {kl : List (Nat × Nat × Nat × Nat × Nat)} {cs ce i : Nat} {x : jC} {q : (Nat → Nat) × Bool} (h : (hSp bl kl cs ce i x q).2 = false) : hSp bl kl cs ce i x q = q ∧ hCl bl kl cs ce q.1 i x := by
  unfold hSp at h ⊢
  unfold hCl
  obtain ⟨g, hg⟩ : ∃ g, g = hGd (q.1 i) (tkX bl x) (lvX bl x) := ⟨_, rfl⟩
  rw [← hg] at h ⊢
  by_cases c : g = 0
  · rw [if_pos c]; exact ⟨rfl, fun h => absurd c h⟩
  · rw [if_neg c] at h ⊢
    dsimp only at h ⊢
    obtain ⟨t1, t2⟩ := hCt_f _ _ _ h
    rw [t1] at h ⊢
    by_cases d : 19 ≤ x.1 ∧ x.1 ≤ 29
    · rw [if_pos d] at h t2 ⊢
      obtain ⟨a1, a2⟩ := hAdd_f h
      rw [a1] at h t2 ⊢
      by_cases f : fal x.1 = true
      · rw [if_pos f] at h t2 a2 ⊢
        obtain ⟨b1, b2⟩ := hAdd_f h
        rw [b1] at t2 a2 ⊢
        exact ⟨rfl, fun _ => ⟨fun _ => b2, fun _ => a2, fun j y h1 h2 => t2 j y h1 (by omega)⟩⟩
      · rw [if_neg f] at h t2 a2 ⊢
        exact ⟨rfl, fun _ => ⟨fun h => absurd h f, fun _ => a2, fun j y h1 h2 => t2 j y h1 (by omega)⟩⟩
    · rw [if_neg d] at h t2 ⊢
      by_cases f : fal x.1 = true
      · rw [if_pos f] at h t2 ⊢
        obtain ⟨b1, b2⟩ := hAdd_f h
        rw [b1] at t2 ⊢
        exact ⟨rfl, fun _ => ⟨fun _ => b2, fun h => absurd h d, fun j y h1 h2 => t2 j y h1 (by omega)⟩⟩
      · rw [if_neg f] at h t2 ⊢
        exact ⟨rfl, fun _ => ⟨fun h => absurd h f, fun h => absurd h d, fun j y h1 h2 => t2 j y h1 (by omega)⟩⟩
theorem hSw_f {bl : List jB} {z : jL} {cs ce : Nat} : ∀ (n i : Nat) (q : (Nat → Nat) × Bool), (hSw bl z cs ce n i q).2 = false → hSw bl z cs ce n i q = q ∧ ∀ j x, i ≤ j → j < i + n → z.1[j]? = some x → hCl bl z.2.2.1 cs ce q.1 j x := by
  intro n
  induction n with
  | zero => intro i q h; exact ⟨rfl, fun j y h1 h2 => by omega⟩
  | succ n ih =>
    intro i q h
    rw [hSw] at h ⊢
    obtain ⟨i1, i2⟩ := ih (i + 1) _ h
    rw [i1] at h ⊢
    cases hy : z.1[i]? with
    | none =>
      rw [hy] at i2 h
      refine ⟨rfl, fun j y h1 h2 h3 => ?_⟩
      by_cases c : j = i
      · rw [c, hy] at h3; cases h3
      · exact i2 j y (by omega) (by omega) h3
    | some w =>
      rw [hy] at i2 h
      dsimp only at i2 h ⊢
      obtain ⟨a1, a2⟩ := hSp_f h
      rw [a1] at i2 ⊢
      refine ⟨rfl, fun j y h1 h2 h3 => ?_⟩
      by_cases c : j = i
      · rw [c] at h3 ⊢; rw [hy] at h3; cases h3; exact a2
      · exact i2 j y (by omega) (by omega) h3
/-! the first height stays -/
theorem hAdd_b {q : (Nat → Nat) × Bool} {j g s : Nat} (h : (q.1 s).testBit 0 = true) : ((hAdd q j g).1 s).testBit 0 = true := by
  unfold hAdd
  split
  · exact h
  · dsimp only
    split
    · rename_i e; rw [← e, Nat.testBit_or, h]; rfl
    · exact h
theorem hCt_b {kl : List (Nat × Nat × Nat × Nat × Nat)} {i s : Nat} : ∀ (n k : Nat) (q : (Nat → Nat) × Bool), (q.1 s).testBit 0 = true → ((hCt kl i n k q).1 s).testBit 0 = true := by
  intro n
  induction n with
  | zero => intro k q h; exact h
  | succ n ih =>
    intro k q h
    rw [hCt]
    refine ih _ _ ?_
    split
    · split
      · exact hAdd_b h
      · exact h
    · exact h
theorem hSp_b {bl : List jB} {kl : List (Nat × Nat × Nat × Nat × Nat)} {cs ce i s : Nat} {x : jC} {q : (Nat → Nat) × Bool} (h : (q.1 s).testBit 0 = true) : ((hSp bl kl cs ce i x q).1 s).testBit 0 = true := by
  unfold hSp
  split
  · exact h
  · refine hCt_b _ _ _ ?_
    dsimp only
    split
    · refine hAdd_b ?_
      split
      · exact hAdd_b h
      · exact h
    · split
      · exact hAdd_b h
      · exact h
theorem hSw_b {bl : List jB} {z : jL} {cs ce s : Nat} : ∀ (n i : Nat) (q : (Nat → Nat) × Bool), (q.1 s).testBit 0 = true → ((hSw bl z cs ce n i q).1 s).testBit 0 = true := by
  intro n
  induction n with
  | zero => intro i q h; exact h
  | succ n ih =>
    intro i q h
    rw [hSw]
    refine ih _ _ ?_
    split
    · exact hSp_b h
    · exact h
section HGO
variable {ns : List (List Int)} {us : List Int} {fl : List (List Int × Nat × Int)} {bl : List jB} {z : jL} {Q : Nat}
theorem hIt_cl {b : Nat} {xb : jB} {e : Nat × Nat × Nat × Nat} (hw : wB ns us fl bl z b xb e) (hb : hBd bl z b e) (h1024 : z.1.length ≤ 1024) : ∀ (n : Nat) (q : (Nat → Nat) × Bool), 523264 < hSm q.1 1024 + n → q.2 = true → hLt q.1 → (q.1 e.1).testBit 0 = true → hLt (hIt bl z e n q) ∧ ((hIt bl z e n q) e.1).testBit 0 = true ∧ ∀ j x, e.1 ≤ j → j < e.2.1 → z.1[j]? = some x → hCl bl z.2.2.1 e.2.2.1 e.2.2.2 (hIt bl z e n q) j x := by
  intro n
  induction n with
  | zero =>
    intro q h1 h2 h3
    have := hSm_le h3 1024
    omega
  | succ n ih =>
    intro q h1 h2 h3 h4
    have hlt : e.1 < e.2.1 := hw.2.1
    rw [hIt, if_neg (by rw [h2]; decide)]
    obtain ⟨hup, hl⟩ := hSw_up hw hb h1024 (e.2.1 - e.1) e.1 (q.1, false) (Nat.le_refl _) (by omega) h3
    have hbit := hSw_b (bl := bl) (z := z) (cs := e.2.2.1) (ce := e.2.2.2) (s := e.1) (e.2.1 - e.1) e.1 (q.1, false) h4
    have hf := hSw_f (bl := bl) (z := z) (cs := e.2.2.1) (ce := e.2.2.2) (e.2.1 - e.1) e.1 (q.1, false)
    obtain ⟨q', hq'⟩ : ∃ q', q' = hSw bl z e.2.2.1 e.2.2.2 (e.2.1 - e.1) e.1 (q.1, false) := ⟨_, rfl⟩
    rw [← hq'] at hup hl hbit hf ⊢
    cases hq2 : q'.2 with
    | false =>
      have hIt0 : hIt bl z e n q' = q'.1 := by
        cases n with
        | zero => rfl
        | succ n => rw [hIt, if_pos hq2]
      rw [hIt0]
      obtain ⟨f1, f2⟩ := hf hq2
      rw [f1]
      exact ⟨h3, h4, fun j x x1 x2 => f2 j x x1 (by omega)⟩
    | true =>
      have hgt : hSm q.1 1024 < hSm q'.1 1024 := by
        rcases hup.2 hq2 with h | h
        · cases h
        · exact h
      exact ih q' (by omega) hq2 hl hbit
theorem hCk_n {M : Nat → Nat} : ∀ (d i : Nat), hCk bl z M d i = none → (∀ j, i ≤ j → j < i + d → j < z.1.length) → ∀ j x, i ≤ j → j < i + d → z.1[j]? = some x → onz (M j) = true ∧ (M j ≠ 0 → hGd (M j) (tkX bl x) (lvX bl x) ≠ 0) := by
  intro d
  induction d with
  | zero => intro i h hl j x h1 h2; omega
  | succ d ih =>
    intro i h hl j x h1 h2 hx
    obtain ⟨w, hw⟩ : ∃ w, z.1[i]? = some w := ⟨z.1[i]'(hl i (by omega) (by omega)), List.getElem?_eq_getElem (hl i (by omega) (by omega))⟩
    rw [hCk, hw] at h
    dsimp only at h
    by_cases c : onz (M i) = false ∨ (M i ≠ 0 ∧ hGd (M i) (tkX bl w) (lvX bl w) = 0)
    · rw [if_pos c] at h; cases h
    · rw [if_neg c] at h
      by_cases c' : j = i
      · rw [c'] at hx ⊢
        rw [hw] at hx
        cases hx
        refine ⟨?_, fun h0 hg => c (Or.inr ⟨h0, hg⟩)⟩
        cases ho : onz (M i) with
        | true => rfl
        | false => exact absurd (Or.inl ho) c
      · exact ih (i + 1) h (fun j a b => hl j (by omega) (by omega)) j x (by omega) (by omega) hx
theorem hgt_k : ∀ h : Nat, h < 9 → hgt (2 ^ h) = h := by decide +kernel
theorem hGd_k : ∀ h : Nat, h < 9 → ∀ t : Nat, t < 13 → ∀ l : Nat, l < 3 → hGd (2 ^ h) t l = if t ≤ h ∧ h - t + l ≤ 8 then 2 ^ (h - t + l) else 0 := by decide +kernel
theorem or_k : ∀ a : Nat, a < 9 → ∀ k : Nat, k < 9 → 2 ^ a ||| 2 ^ k = 2 ^ a → a = k := by decide +kernel
theorem or_k0 : ∀ k : Nat, k < 9 → ¬ 0 ||| 2 ^ k = 0 := by decide +kernel
theorem bit_k : ∀ a : Nat, a < 9 → (2 ^ a).testBit 0 = true → a = 0 := by decide +kernel
theorem one_b {m : Nat} (h : m < 512) (ho : onz m = true) : m = 0 ∨ ∃ k, k < 9 ∧ m = 2 ^ k := by
  rcases onz_k m h with h | h | h | h | h | h | h | h | h | h | h
  · rw [ho] at h; cases h
  · exact Or.inl h
  · exact Or.inr ⟨0, by decide, h⟩
  · exact Or.inr ⟨1, by decide, h⟩
  · exact Or.inr ⟨2, by decide, h⟩
  · exact Or.inr ⟨3, by decide, h⟩
  · exact Or.inr ⟨4, by decide, h⟩
  · exact Or.inr ⟨5, by decide, h⟩
  · exact Or.inr ⟨6, by decide, h⟩
  · exact Or.inr ⟨7, by decide, h⟩
  · exact Or.inr ⟨8, by decide, h⟩
theorem or_b {m k : Nat} (h : m < 512) (ho : onz m = true) (hk : k < 9) (e : m ||| 2 ^ k = m) : m ≠ 0 ∧ hgt m = k := by
  rcases one_b h ho with h0 | ⟨a, h1, h2⟩
  · rw [h0] at e; exact absurd e (or_k0 k hk)
  · rw [h2] at e ⊢
    have := or_k a h1 k hk e
    exact ⟨Nat.ne_of_gt (Nat.two_pow_pos a), by rw [hgt_k a h1, this]⟩
/-- the heights fit together -/
def hGood (bl : List jB) (z : jL) (b : Nat) (e : Nat × Nat × Nat × Nat) (M : Nat → Nat) : Prop := M e.1 ≠ 0 ∧ hgt (M e.1) = 0 ∧ ∀ i x, e.1 ≤ i → i < e.2.1 → z.1[i]? = some x → M i ≠ 0 → tkX bl x ≤ hgt (M i) ∧ hgt (M i) - tkX bl x + lvX bl x ≤ 8 ∧ hgt (M i) ≤ 8 ∧ (fal x.1 = true → M (i + 1) ≠ 0 ∧ hgt (M (i + 1)) = hgt (M i) - tkX bl x + lvX bl x) ∧ (19 ≤ x.1 ∧ x.1 ≤ 29 → M x.2.1.toNat ≠ 0 ∧ hgt (M x.2.1.toNat) = hgt (M i) - tkX bl x + lvX bl x) ∧ ∀ (k : Nat) (y : Nat × Nat × Nat × Nat × Nat), z.2.2.1[k]? = some y → y.1 = b → y.2.1 ≤ i → i < y.2.2.1 → M y.2.2.2.1 ≠ 0 ∧ hgt (M y.2.2.2.1) = 1
theorem h_good {b : Nat} {xb : jB} {e : Nat × Nat × Nat × Nat} (hw : wB ns us fl bl z b xb e) (hb : hBd bl z b e) (h1024 : z.1.length ≤ 1024) (h : hCk bl z (hMs bl z e) (e.2.1 - e.1) e.1 = none) : hGood bl z b e (hMs bl z e) := by
  have hlt : e.1 < e.2.1 := hw.2.1
  have hlen : e.2.1 ≤ z.1.length := hw.2.2.1
  obtain ⟨c1, c2, c3⟩ := hIt_cl hw hb h1024 523265 (hM0 e.1, true) (by omega) rfl (fun i => by dsimp only [hM0]; split <;> decide) (by dsimp only [hM0]; rw [if_pos rfl]; rfl)
  have k := hCk_n (bl := bl) (z := z) (M := hMs bl z e) _ _ h (fun j a b => by omega)
  have c1' : hLt (hMs bl z e) := c1
  have c2' : ((hMs bl z e) e.1).testBit 0 = true := c2
  have c3' : ∀ j x, e.1 ≤ j → j < e.2.1 → z.1[j]? = some x → hCl bl z.2.2.1 e.2.2.1 e.2.2.2 (hMs bl z e) j x := c3
  clear c1 c2 c3
  obtain ⟨M, hM⟩ : ∃ M, M = hMs bl z e := ⟨_, rfl⟩
  rw [← hM] at k c1' c2' c3' ⊢
  have kk : ∀ j, e.1 ≤ j → j < e.2.1 → onz (M j) = true := fun j h1 h2 => (k j (z.1[j]'(by omega)) h1 (by omega) (List.getElem?_eq_getElem (by omega))).1
  refine ⟨?_, ?_, fun i x h1 h2 hx h0 => ?_⟩
  · intro h0; rw [h0] at c2'; exact absurd c2' (by decide)
  · rcases one_b (c1' e.1) (kk e.1 (Nat.le_refl _) hlt) with h0 | ⟨a, a1, a2⟩
    · rw [h0]; rfl
    · rw [a2] at c2' ⊢
      rw [hgt_k a a1]; exact bit_k a a1 c2'
  · obtain ⟨-, -, w3, w4, w5, w6, w7, w8⟩ := hw
    obtain ⟨hbo, hcw⟩ := w4 i x h1 h2 hx
    obtain ⟨t12, l2⟩ := tk_le12 hcw hb.1
    have hg := (k i x h1 (by omega) hx).2 h0
    obtain ⟨d1, d2, d3⟩ := c3' i x h1 h2 hx hg
    rcases one_b (c1' i) (kk i h1 h2) with h0' | ⟨a, a1, a2⟩
    · exact absurd h0' h0
    have hgk := hGd_k a a1 (tkX bl x) (by omega) (lvX bl x) (by omega)
    rw [a2] at hg d1 d2
    rw [hgk] at hg d1 d2
    rw [a2, hgt_k a a1]
    by_cases c : tkX bl x ≤ a ∧ a - tkX bl x + lvX bl x ≤ 8
    · rw [if_pos c] at d1 d2
      refine ⟨c.1, c.2, by omega, fun hf => ?_, fun hf => ?_, fun kk' y hy hyb y1 y2 => ?_⟩
      · have := hb.2.2 i x h1 h2 hx hf
        exact or_b (c1' _) (kk _ (by omega) this) (by omega) (d1 hf)
      · obtain ⟨tt, t1, t2, t3⟩ := hcw.2.1 ((fK4 x.1 hcw.1).mpr hf)
        have d2' := d2 hf
        rw [t1, Int.toNat_natCast] at d2' ⊢
        exact or_b (c1' _) (kk _ t2 t3) (by omega) d2'
      · have hr := w8 kk' y hy hyb
        obtain ⟨r1, r2⟩ := (w7 kk' y hy).mp hyb
        exact or_b (k := 1) (c1' _) (kk _ hr.2.2.2.2.1 hr.2.2.2.2.2.1) (by decide) (d3 kk' y r1 r2 hy y1 y2)
    · rw [if_neg c] at hg; exact absurd rfl hg
end HGO
