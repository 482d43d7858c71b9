/-! Heights: rounds, the class's look. -/
section HIT
variable {ns : List (List Int)} {us : List Int} {fl : List (List Int × Nat × Int)} {bl : List jB} {z : jL} {Q : Nat}
/-- rounds until nothing changes -/
def hIt (bl : List jB) (z : jL) (e : Nat × Nat × Nat × Nat) : Nat → (Nat → Nat) × Bool → Nat → Nat
  | 0, q => q.1
  | n + 1, q => if q.2 = false then q.1 else hIt bl z e n (hSw bl z e.2.2.1 e.2.2.2 (e.2.1 - e.1) e.1 (q.1, false))
/-- what is known of a body while its heights are looked for -/
def hBd (bl : List jB) (z : jL) (b : Nat) (e : Nat × Nat × Nat × Nat) : Prop := (∀ y ∈ bl, y.ps.length ≤ 12) ∧ (∀ (k : Nat) (y : Nat × Nat × Nat × Nat × Nat), z.2.2.1[k]? = some y → y.2.2.2.1 < z.1.length) ∧ ∀ i x, e.1 ≤ i → i < e.2.1 → z.1[i]? = some x → fal x.1 = true → i + 1 < e.2.1
theorem hSp_up {b : Nat} {xb : jB} {e : Nat × Nat × Nat × Nat} (hw : wB ns us fl bl z b xb e) (hb : hBd bl z b e) (h1024 : z.1.length ≤ 1024) {i : Nat} {x : jC} (h1 : e.1 ≤ i) (h2 : i < e.2.1) (hx : z.1[i]? = some x) (q : (Nat → Nat) × Bool) (hq : hLt q.1) : hUp q (hSp bl z.2.2.1 e.2.2.1 e.2.2.2 i x q) ∧ hLt (hSp bl z.2.2.1 e.2.2.1 e.2.2.2 i x q).1 := by
  obtain ⟨-, w2, w3, w4, w5, w6, -⟩ := hw
  obtain ⟨hbo, hcw⟩ := w4 i x h1 h2 hx
  obtain ⟨t12, l2⟩ := tk_le12 hcw hb.1
  have k3 := (hH (tkX bl x) (by omega) (lvX bl x) (by omega) (q.1 i) (hq i)).2.2.1
  unfold hSp
  split
  · exact ⟨hUp_rfl q, hq⟩
  · dsimp only
    have u1 : hUp q (if fal x.1 = true then hAdd q (i + 1) (hGd (q.1 i) (tkX bl x) (lvX bl x)) else q) ∧ hLt (if fal x.1 = true then hAdd q (i + 1) (hGd (q.1 i) (tkX bl x) (lvX bl x)) else q).1 := by
      split
      · rename_i hf
        have := hb.2.2 i x h1 h2 hx hf
        exact ⟨hUp_add q _ (by omega), hAdd_lt hq k3⟩
      · exact ⟨hUp_rfl q, hq⟩
    have u2 : hUp q (if 19 ≤ x.1 ∧ x.1 ≤ 29 then hAdd (if fal x.1 = true then hAdd q (i + 1) (hGd (q.1 i) (tkX bl x) (lvX bl x)) else q) x.2.1.toNat (hGd (q.1 i) (tkX bl x) (lvX bl x)) else if fal x.1 = true then hAdd q (i + 1) (hGd (q.1 i) (tkX bl x) (lvX bl x)) else q) ∧ hLt (if 19 ≤ x.1 ∧ x.1 ≤ 29 then hAdd (if fal x.1 = true then hAdd q (i + 1) (hGd (q.1 i) (tkX bl x) (lvX bl x)) else q) x.2.1.toNat (hGd (q.1 i) (tkX bl x) (lvX bl x)) else if fal x.1 = true then hAdd q (i + 1) (hGd (q.1 i) (tkX bl x) (lvX bl x)) else q).1 := by
      by_cases c : 19 ≤ x.1 ∧ x.1 ≤ 29
      · rw [if_pos c]
        obtain ⟨tt, t1, t2, t3⟩ := hcw.2.1 ((fK4 x.1 hcw.1).mpr c)
        exact ⟨hUp_trans u1.1 (hUp_add _ _ (by rw [t1, Int.toNat_natCast]; omega)), hAdd_lt u1.2 k3⟩
      · rw [if_neg c]; exact u1
    exact ⟨hUp_trans u2.1 (hUp_ct (fun k y hy => Nat.lt_of_lt_of_le (hb.2.1 k y hy) h1024) _ _ _), hCt_lt _ _ _ u2.2⟩
theorem hSw_up {b : Nat} {xb : jB} {e : Nat × Nat × Nat × Nat} (hw : wB ns us fl bl z b xb e) (hb : hBd bl z b e) (h1024 : z.1.length ≤ 1024) : ∀ (d i : Nat) (q : (Nat → Nat) × Bool), e.1 ≤ i → i + d = e.2.1 → hLt q.1 → hUp q (hSw bl z e.2.2.1 e.2.2.2 d i q) ∧ hLt (hSw bl z e.2.2.1 e.2.2.2 d i q).1 := by
  intro d
  induction d with
  | zero => intro i q _ _ hq; exact ⟨hUp_rfl q, hq⟩
  | succ d ih =>
    intro i q h1 h2 hq
    have hlen : e.2.1 ≤ z.1.length := hw.2.2.1
    obtain ⟨x, hx⟩ : ∃ x, z.1[i]? = some x := ⟨z.1[i]'(by omega), List.getElem?_eq_getElem (by omega)⟩
    rw [hSw, hx]
    dsimp only
    obtain ⟨u1, u2⟩ := hSp_up hw hb h1024 h1 (by omega) hx q hq
    obtain ⟨i1, i2⟩ := ih (i + 1) _ (by omega) (by omega) u2
    exact ⟨hUp_trans u1 i1, i2⟩
theorem c_rounds (hQ : Q = 13 ∨ Q = 49) {el : List (Nat × Nat × Nat × Nat)} {b : Nat} {xb : jB} {e : Nat × Nat × Nat × Nat} (he : el[b]? = some e) (hw : wB ns us fl bl z b xb e) (hb : hBd bl z b e) : ∀ (n m r : Nat) (q : (Nat → Nat) × Bool) (S : nk_S), cHv S Q bl z el → cHm e S q → 523264 < hSm q.1 1024 + n → n < m → r + n < 600000 → ∃ S', ja_X9_wrongHeight_L64 m 86 (e.1 : Int) (e.2.1 : Int) (r : Int) S = ja_X9_wrongHeight_L118 nk_big 86 (e.2.1 : Int) (e.1 : Int) S' ∧ hFr S S' ∧ cHm e S' (hIt bl z e n q, false) := by
  intro n
  induction n with
  | zero =>
    intro m r q S hv hm h1 h2 h3
    have := hSm_le hm.2.2 1024
    omega
  | succ n ih =>
    intro m r q S hv hm h1 h2 h3
    obtain ⟨m, rfl⟩ : ∃ q, m = q + 1 := ⟨m - 1, by omega⟩
    have h1024 : z.1.length ≤ 1024 := hv.2.2.2.2.2.2.1
    have hlen : e.2.1 ≤ z.1.length := hw.2.2.1
    have hlt : e.1 < e.2.1 := hw.2.1
    rw [hIt]
    have hstep : ja_X9_wrongHeight_L64 (m + 1) 86 (e.1 : Int) (e.2.1 : Int) (r : Int) S = if bi q.2 = 0 then ja_X9_wrongHeight_L118 nk_big 86 (e.2.1 : Int) (e.1 : Int) S else ja_X9_wrongHeight_L88 (ja_X9_wrongHeight_L64 m) nk_big 86 (e.1 : Int) (e.2.1 : Int) (r : Int) (e.1 : Int) (nk_wi S 86 7 0) := by
      show ja_X9_wrongHeight_b64 (ja_X9_wrongHeight_L64 m) 86 (e.1 : Int) (e.2.1 : Int) (r : Int) S = _
      unfold ja_X9_wrongHeight_b64
      rw [if_neg (by omega), hm.2.1, lt_eq]
    obtain ⟨M, f⟩ := q
    cases f with
    | false =>
      rw [if_pos (show bi false = 0 from rfl)] at hstep
      rw [if_pos rfl]
      exact ⟨S, hstep, hFr_rfl, hm⟩
    | true =>
      rw [if_neg (show ¬ bi true = 0 by decide)] at hstep
      rw [if_neg (show ¬ ((M, true) : (Nat → Nat) × Bool).2 = false from fun h => by have h2 : true = false := h; cases h2)]
      obtain ⟨A, hA⟩ : ∃ A, A = nk_wi S 86 7 0 := ⟨_, rfl⟩
      rw [← hA] at hstep
      have FA : hFr S A := ⟨by rw [hA]; rfl, fun a x _ => by rw [hA, wi_n x], fun i hi => by rw [hA, wi_at, if_neg hi]⟩
      have mA : cHm e A (M, false) := ⟨fun i hi hi2 => by rw [hA, wi_n (by decide)]; exact hm.1 i hi hi2, by rw [hA, wi_at, if_pos rfl]; rfl, hm.2.2⟩
      obtain ⟨bm, hbm⟩ := big_ge 2000 (by decide)
      obtain ⟨T, t1, t2, t3⟩ := c_sweepL hQ he hw hb.1 hb.2.1 hb.2.2 (rec64 := ja_X9_wrongHeight_L64 m) (r := (r : Int)) (e.2.1 - e.1) e.1 nk_big (M, false) A (cHv_F hQ FA hv) mA (Nat.le_refl _) (by omega) (by omega)
      have wr : nk_W ((r : Int) + 1) = ((r + 1 : Nat) : Int) := by
        rw [show (r : Int) + 1 = ((r + 1 : Nat) : Int) by omega]
        exact nk_W_id (by omega) (by omega)
      rw [wr] at t1
      clear wr
      have hup := (hSw_up hw hb h1024 (e.2.1 - e.1) e.1 (M, false) (Nat.le_refl _) (by omega) hm.2.2).1
      obtain ⟨q', hq'⟩ : ∃ q', q' = hSw bl z e.2.2.1 e.2.2.2 (e.2.1 - e.1) e.1 (M, false) := ⟨_, rfl⟩
      show ∃ S', _ ∧ hFr S S' ∧ cHm e S' (hIt bl z e n (hSw bl z e.2.2.1 e.2.2.2 (e.2.1 - e.1) e.1 (M, false)), false)
      rw [← hq'] at t3 hup ⊢
      have hmono := hSm_mono hup.1 1024
      have hM1 : hSm ((M, false) : (Nat → Nat) × Bool).1 1024 = hSm M 1024 := rfl
      have hM2 : 523264 < hSm M 1024 + (n + 1) := h1
      cases hf : q'.2 with
      | false =>
        -- nothing has changed: the loop ends at once
        have hIt0 : hIt bl z e n q' = q'.1 := by
          cases n with
          | zero => rfl
          | succ n => rw [hIt, if_pos hf]
        rw [hIt0]
        have hq2 : cHm e T (q'.1, false) := by
          obtain ⟨a1, a2, a3⟩ := t3
          rw [hf] at a2
          exact ⟨a1, a2, a3⟩
        obtain ⟨m, rfl⟩ : ∃ q, m = q + 1 := ⟨m - 1, by omega⟩
        refine ⟨T, ?_, hFr_trans FA t2, hq2⟩
        rw [hstep, t1]
        show ja_X9_wrongHeight_b64 (ja_X9_wrongHeight_L64 m) 86 (e.1 : Int) (e.2.1 : Int) ((r + 1 : Nat) : Int) T = _
        unfold ja_X9_wrongHeight_b64
        rw [if_neg (by omega), hq2.2.1, if_pos (show bi false = 0 from rfl)]
      | true =>
        have hgt : hSm M 1024 < hSm q'.1 1024 := by
          rcases hup.2 hf with h | h
          · cases h
          · exact h
        obtain ⟨S', i1, i2, i3⟩ := ih m (r + 1) q' T (cHv_F hQ (hFr_trans FA t2) hv) t3 (by omega) (by omega) (by omega)
        exact ⟨S', by rw [hstep, t1]; exact i1, hFr_trans FA (hFr_trans t2 i2), i3⟩
end HIT
def bcE (l0 : Int) : Int :=
  let v1 := nk_w (l0 - (nk_iand (nk_iushr l0 1) 1431655765))
  let v3 := nk_w ((nk_iand v1 858993459) + (nk_iand (nk_iushr v1 2) 858993459))
  let v5 := nk_iand (nk_w (v3 + (nk_iushr v3 4))) 252645135
  let v7 := nk_w (v5 + (nk_iushr v5 8))
  let v9 := nk_w (v7 + (nk_iushr v7 16))
  nk_iand v9 63
theorem bc_eq (m : Int) (S : nk_S) : ja_J6_bitCount_0f7a4 m S = some (bcE m, S) := rfl
theorem bc_k : ∀ m : Nat, m < 512 → (1 < bcE (m : Int) ↔ onz m = false) := by decide +kernel
/-- the height that a mask tells -/
def hgt (m : Nat) : Nat := if m = 2 then 1 else if m = 4 then 2 else if m = 8 then 3 else if m = 16 then 4 else if m = 32 then 5 else if m = 64 then 6 else if m = 128 then 7 else if m = 256 then 8 else 0
theorem ntz_k (S : nk_S) {m : Nat} (h : m = 1 ∨ m = 2 ∨ m = 4 ∨ m = 8 ∨ m = 16 ∨ m = 32 ∨ m = 64 ∨ m = 128 ∨ m = 256) : ja_J6_numberOfTrailingZeros_0f7a4 (m : Int) S = some ((hgt m : Int), S) := by
  rcases h with rfl | rfl | rfl | rfl | rfl | rfl | rfl | rfl | rfl <;> rfl
