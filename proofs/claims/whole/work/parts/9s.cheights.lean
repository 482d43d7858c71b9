/-! Heights: the class's sweeps and rounds. -/
section CHU
variable {ns : List (List Int)} {us : List Int} {fl : List (List Int × Nat × Int)} {bl : List jB} {z : jL} {Q : Nat}
theorem c_fineH (hQ : Q = 13 ∨ Q = 49) {e : Nat × Nat × Nat × Nat} {S : nk_S} {q : (Nat → Nat) × Bool} (h86 : S.2 86 0 = Q) (hm : cHm e S q) {i t l : Nat} (hi : i < 1024) (hi1 : e.1 ≤ i) (hi2 : i < e.2.1) (ht : ja_X3_takes Q (i : Int) S = some ((t : Int), S)) (hl : ja_X3_leaves Q (i : Int) S = some ((l : Int), S)) (ht12 : t < 13) (hl2 : l < 3) : ja_X9_fineHeights 86 (i : Int) S = some ((hFi (q.1 i) t l : Int), S) := by
  obtain ⟨m1, m2, m3⟩ := hm
  obtain ⟨s1, s2⟩ := shl511 t ht12
  have hm5 := m3 i
  have hle := Nat.and_le_left (n := q.1 i) (m := 511 <<< t)
  have a1 : nk_iand (q.1 i : Int) ((511 <<< t : Nat) : Int) = ((q.1 i &&& (511 <<< t) : Nat) : Int) := iand_n (by omega) s2
  unfold ja_X9_fineHeights hFi
  rw [h86, hl, bd_some, h86, ht, bd_some, lt_eq, if_pos (in_i (N := 1024) (by omega)), h86, ht, bd_some, lt_eq, jc_86_2, Int.toNat_natCast, m1 i hi1 hi2, s1, a1]
  have w : nk_w ((l : Int) - (t : Int)) = (l : Int) - (t : Int) := nk_w_id (by omega) (by omega)
  rw [w]
  clear w
  by_cases c : l ≤ t
  · rw [if_pos (show (l : Int) - (t : Int) ≤ 0 by omega), if_pos c]
  · rw [if_neg (show ¬ (l : Int) - (t : Int) ≤ 0 by omega), if_neg c, show (l : Int) - (t : Int) = ((l - t : Nat) : Int) by omega]
    have u1 : nk_iushr 511 ((l - t : Nat) : Int) = ((511 >>> (l - t) : Nat) : Int) := iushr_n (a := 511) (by decide) (by omega)
    have u2 : 511 >>> (l - t) ≤ 511 := Nat.shiftRight_le 511 (l - t)
    rw [u1, iand_n (by omega) (by omega)]
theorem c_spread (hQ : Q = 13 ∨ Q = 49) {el : List (Nat × Nat × Nat × Nat)} {S : nk_S} {q : (Nat → Nat) × Bool} {e : Nat × Nat × Nat × Nat} (hv : cHv S Q bl z el) (hm : cHm e S q) {b i : Nat} {xb : jB} {x : jC} (he : el[b]? = some e) (hw : wB ns us fl bl z b xb e) (h1 : e.1 ≤ i) (h2 : i < e.2.1) (hx : z.1[i]? = some x) (h12 : ∀ y ∈ bl, y.ps.length ≤ 12) (hat : ∀ (k : Nat) (y : Nat × Nat × Nat × Nat × Nat), z.2.2.1[k]? = some y → y.2.2.2.1 < z.1.length) (hnx : fal x.1 = true → i + 1 < e.2.1) : ∃ S', ja_X9_spreadHeights 86 (i : Int) S = some (0, S') ∧ hFr S S' ∧ cHm e S' (hSp bl z.2.2.1 e.2.2.1 e.2.2.2 i x q) := by
  have hv0 := hv
  obtain ⟨v1, v2, v3, v4, v5, v6, v7, v8, v9⟩ := hv
  have hw0 := hw
  obtain ⟨-, -, w3, w4, w5, w6, -⟩ := hw
  obtain ⟨hbo, hcw⟩ := w4 i x h1 h2 hx
  have hi : i < 1024 := by omega
  obtain ⟨c1, c2, c3, c4, c5⟩ := v2.2 i x hx
  have ht := c_takes hQ hi c1 c2 (fun b y hy => (v5 b y hy).1) v6 hcw
  have hl := c_leaves hQ hi c1 c2 (fun b y hy => (v5 b y hy).2) v6 hcw
  obtain ⟨t12, l2⟩ := tk_le12 hcw h12
  have hb48 := at_lt he
  have hfine := c_fineH hQ v1 hm hi h1 h2 ht hl (by omega) (by omega)
  obtain ⟨k1, k2, k3, k4⟩ := hH (tkX bl x) (by omega) (lvX bl x) (by omega) (q.1 i) (hm.2.2 i)
  obtain ⟨t, et⟩ : ∃ t, t = tkX bl x := ⟨_, rfl⟩
  obtain ⟨l, elv⟩ : ∃ l, l = lvX bl x := ⟨_, rfl⟩
  unfold hSp
  rw [← et] at ht t12 hfine k1 k2 k3 k4 ⊢
  rw [← elv] at hl l2 hfine k1 k2 k3 k4 ⊢
  obtain ⟨g, hg⟩ : ∃ g, g = hGd (q.1 i) t l := ⟨_, rfl⟩
  rw [← hg] at k1 k2 k3 ⊢
  unfold ja_X9_spreadHeights
  rw [hfine, bd_some]
  by_cases c : g = 0
  · rw [if_pos (show (hFi (q.1 i) t l : Int) = 0 by have := k2.mpr c; omega), if_pos c]
    exact ⟨S, rfl, hFr_rfl, hm⟩
  · have wlt : nk_w ((l : Int) - (t : Int)) = (l : Int) - (t : Int) := nk_w_id (by omega) (by omega)
    have hneg : nk_w (-((l : Int) - (t : Int))) = (t : Int) - (l : Int) := by
      rw [show -((l : Int) - (t : Int)) = (t : Int) - (l : Int) by omega]
      exact nk_w_id (by omega) (by omega)
    have hf0 : ¬ (hFi (q.1 i) t l : Int) = 0 := by
      intro h0
      exact c (k2.mp (by clear wlt hneg; omega))
    rw [if_neg hf0, if_neg c, v1, hl, bd_some, v1, ht, bd_some, lt_eq, wlt]
    have hsel : (if (l : Int) - (t : Int) < 0 then ja_X9_spreadHeights_b43 86 (i : Int) (nk_iushr (hFi (q.1 i) t l : Int) (nk_w (-((l : Int) - (t : Int))))) S else ja_X9_spreadHeights_b43 86 (i : Int) (nk_ishl (hFi (q.1 i) t l : Int) ((l : Int) - (t : Int))) S) = ja_X9_spreadHeights_b43 86 (i : Int) (g : Int) S := by
      rw [hneg]
      clear wlt hneg
      rw [← k1]
      unfold hLe
      by_cases cl : l < t
      · rw [if_pos (show (l : Int) - (t : Int) < 0 by omega), if_pos cl, show (t : Int) - (l : Int) = ((t - l : Nat) : Int) by omega, iushr_n (by omega) (by omega)]
      · rw [if_neg (show ¬ (l : Int) - (t : Int) < 0 by omega), if_neg cl, show (l : Int) - (t : Int) = ((l - t : Nat) : Int) by omega, shl2 (l - t) (by omega) (hFi (q.1 i) t l) k4]
    clear wlt hneg
    rw [hsel]
    clear hsel hf0
    -- the next instruction
    obtain ⟨A, a1, a2, a3⟩ : ∃ A, ja_X9_spreadHeights_b43 86 (i : Int) (g : Int) S = ja_X9_spreadHeights_b65 86 (i : Int) (g : Int) A ∧ hFr S A ∧ cHm e A (if fal x.1 = true then hAdd q (i + 1) g else q) := by
      unfold ja_X9_spreadHeights_b43
      rw [v1, c_falls hQ hi c1, bd_some]
      cases hfa : fal x.1 with
      | false =>
        rw [if_pos (show bi false = 0 from rfl), if_neg (by decide)]
        exact ⟨S, rfl, hFr_rfl, hm⟩
      | true =>
        have := hnx hfa
        rw [if_neg (show ¬ bi true = 0 by decide), if_pos rfl, w_nat1 (by omega)]
        obtain ⟨A, a1, a2, a3⟩ := c_addH v1 hm v2.1 (j := i + 1) (g := g) (by omega) (by omega) (by omega) v7 k3
        exact ⟨A, by rw [a1, bd_some], a2, a3⟩
    have hvA := cHv_F hQ a2 hv0
    obtain ⟨va1, va2, va3, va4, va5, va6, va7, va8, va9⟩ := hvA
    obtain ⟨d1, d2, d3, d4, d5⟩ := va2.2 i x hx
    obtain ⟨B, b1, b2, b3⟩ : ∃ B, (nk_bd (ja_X9_addHeights 86 (if 19 ≤ x.1 ∧ x.1 ≤ 29 then x.2.1 else -1) (g : Int) A) fun r5 S6 => if 0 ≤ (i : Int) ∧ (i : Int) < 1024 then nk_lt (S6.1 (ja_c (S6.2 86 0) 8) (i : Int).toNat) fun v11 => if 0 ≤ v11 ∧ v11 < 48 then nk_lt (S6.1 (ja_c (ja_c (S6.2 86 0) 1) 12) v11.toNat) fun v17 => ja_X9_spreadHeights_L105 nk_big 86 (i : Int) v11 v17 S6 else none else none) = ja_X9_spreadHeights_L105 nk_big 86 (i : Int) (b : Int) (e.2.2.1 : Int) B ∧ hFr A B ∧ cHm e B (if 19 ≤ x.1 ∧ x.1 ≤ 29 then hAdd (if fal x.1 = true then hAdd q (i + 1) g else q) x.2.1.toNat g else (if fal x.1 = true then hAdd q (i + 1) g else q)) := by
      have tail : ∀ B : nk_S, cHv B Q bl z el → (if 0 ≤ (i : Int) ∧ (i : Int) < 1024 then nk_lt (B.1 (ja_c (B.2 86 0) 8) (i : Int).toNat) fun v11 => if 0 ≤ v11 ∧ v11 < 48 then nk_lt (B.1 (ja_c (ja_c (B.2 86 0) 1) 12) v11.toNat) fun v17 => ja_X9_spreadHeights_L105 nk_big 86 (i : Int) v11 v17 B else none else none) = ja_X9_spreadHeights_L105 nk_big 86 (i : Int) (b : Int) (e.2.2.1 : Int) B := by
        intro B hvB
        obtain ⟨u1, u2, u3, u4, -⟩ := hvB
        have e29 : B.1 (Q + 29) i = (b : Int) := by rw [(u2.2 i x hx).2.2.2.2, hbo]
        rw [if_pos (in_i (N := 1024) (by omega)), u1, (jc_Qp hQ).2.2.2.2.2.1, Int.toNat_natCast, e29, lt_eq, if_pos (in_i (N := 48) (by omega)), lt_eq, (jc_Qf hQ).2.2.2.2, (jc_Qb hQ).2.2.2.1, Int.toNat_natCast, (u4 b e he).2.2.1]
      by_cases c : 19 ≤ x.1 ∧ x.1 ≤ 29
      · rw [if_pos c, if_pos c]
        obtain ⟨tt, t1, t2, t3⟩ := hcw.2.1 ((fK4 x.1 hcw.1).mpr c)
        rw [t1, Int.toNat_natCast]
        obtain ⟨B, b1, b2, b3⟩ := c_addH va1 a3 va2.1 (j := tt) (g := g) (by omega) (by omega) (by omega) va7 k3
        exact ⟨B, by rw [b1, bd_some]; exact tail B (cHv_F hQ b2 ⟨va1, va2, va3, va4, va5, va6, va7, va8, va9⟩), b2, b3⟩
      · rw [if_neg c, if_neg c]
        exact ⟨A, by rw [c_addH0, bd_some]; exact tail A ⟨va1, va2, va3, va4, va5, va6, va7, va8, va9⟩, hFr_rfl, a3⟩
    obtain ⟨bm, hbm⟩ := big_ge 100 (by decide)
    obtain ⟨D, f1, f2, f3⟩ := c_ctL (i := i) hQ he hw0 hat w6 (e.2.2.2 - e.2.2.1) e.2.2.1 nk_big _ B (cHv_F hQ (hFr_trans a2 b2) hv0) b3 (Nat.le_refl _) (by omega) (by omega)
    refine ⟨D, ?_, hFr_trans a2 (hFr_trans b2 f2), f3⟩
    rw [a1]
    unfold ja_X9_spreadHeights_b65
    rw [va1, c_target hQ hi d1 d2 hcw.1, bd_some, b1, f1]
theorem c_sweepL (hQ : Q = 13 ∨ Q = 49) {el : List (Nat × Nat × Nat × Nat)} {b : Nat} {xb : jB} {e : Nat × Nat × Nat × Nat} (he : el[b]? = some e) (hw : wB ns us fl bl z b xb e) (h12 : ∀ y ∈ bl, y.ps.length ≤ 12) (hat : ∀ (k : Nat) (y : Nat × Nat × Nat × Nat × Nat), z.2.2.1[k]? = some y → y.2.2.2.1 < z.1.length) (hnx : ∀ i x, e.1 ≤ i → i < e.2.1 → z.1[i]? = some x → fal x.1 = true → i + 1 < e.2.1) {rec64 : Nat → Int → Int → Int → nk_S → Option (Int × nk_S)} {r : Int} : ∀ (d i m : Nat) (q : (Nat → Nat) × Bool) (S : nk_S), cHv S Q bl z el → cHm e S q → e.1 ≤ i → i + d = e.2.1 → d < m → ∃ S', ja_X9_wrongHeight_L88 rec64 m 86 (e.1 : Int) (e.2.1 : Int) r (i : Int) S = rec64 86 (e.1 : Int) (e.2.1 : Int) (nk_W (r + 1)) S' ∧ hFr S S' ∧ cHm e S' (hSw bl z e.2.2.1 e.2.2.2 d i q) := by
  intro d
  induction d with
  | zero =>
    intro i m q S hv hm h0 h1 h2
    obtain ⟨m, rfl⟩ : ∃ q, m = q + 1 := ⟨m - 1, by omega⟩
    refine ⟨S, ?_, hFr_rfl, hm⟩
    show ja_X9_wrongHeight_b88 rec64 (ja_X9_wrongHeight_L88 rec64 m) 86 (e.1 : Int) (e.2.1 : Int) r (i : Int) S = _
    unfold ja_X9_wrongHeight_b88
    rw [if_pos (by omega), lt_eq]
  | succ d ih =>
    intro i m q S hv hm h0 h1 h2
    obtain ⟨m, rfl⟩ : ∃ q, m = q + 1 := ⟨m - 1, by omega⟩
    have hlen : e.2.1 ≤ z.1.length := hw.2.2.1
    have h1024 : z.1.length ≤ 1024 := hv.2.2.2.2.2.2.1
    obtain ⟨x, hx⟩ : ∃ x, z.1[i]? = some x := ⟨z.1[i]'(by omega), List.getElem?_eq_getElem (by omega)⟩
    obtain ⟨T, t1, t2, t3⟩ := c_spread hQ hv hm he hw h0 (by omega) hx h12 hat (hnx i x h0 (by omega) hx)
    obtain ⟨S', i1, i2, i3⟩ := ih (i + 1) m _ T (cHv_F hQ t2 hv) t3 (by omega) (by omega) (by omega)
    rw [hSw, hx]
    refine ⟨S', ?_, hFr_trans t2 i2, i3⟩
    show ja_X9_wrongHeight_b88 rec64 (ja_X9_wrongHeight_L88 rec64 m) 86 (e.1 : Int) (e.2.1 : Int) r (i : Int) S = _
    unfold ja_X9_wrongHeight_b88
    rw [if_neg (by omega), t1, bd_some, lt_eq, w_nat1 (by omega)]
    exact i1
end CHU
/-! rounds come to an end -/
def hSm (M : Nat → Nat) : Nat → Nat
  | 0 => 0
  | n + 1 => hSm M n + M n
theorem hSm_le {M : Nat → Nat} (h : hLt M) (n : Nat) : hSm M n ≤ 511 * n := by
  induction n with
  | zero => exact Nat.le_refl 0
  | succ n ih => rw [hSm]; have := h n; omega
theorem hSm_mono {M M' : Nat → Nat} (h : ∀ i, M i ≤ M' i) (n : Nat) : hSm M n ≤ hSm M' n := by
  induction n with
  | zero => exact Nat.le_refl 0
  | succ n ih => rw [hSm, hSm]; have := h n; omega
theorem hSm_lt {M M' : Nat → Nat} (h : ∀ i, M i ≤ M' i) {j : Nat} (hj : M j < M' j) : ∀ n, j < n → hSm M n < hSm M' n := by
  intro n
  induction n with
  | zero => intro h; omega
  | succ n ih =>
    intro hn
    rw [hSm, hSm]
    by_cases c : j = n
    · subst c; have := hSm_mono h j; omega
    · have := ih (by omega); have := h n; omega
/-- masks grow; the flag says that they have -/
def hUp (q q' : (Nat → Nat) × Bool) : Prop := (∀ i, q.1 i ≤ q'.1 i) ∧ (q'.2 = true → q.2 = true ∨ hSm q.1 1024 < hSm q'.1 1024)
theorem hUp_rfl (q : (Nat → Nat) × Bool) : hUp q q := ⟨fun _ => Nat.le_refl _, Or.inl⟩
theorem hUp_trans {q1 q2 q3 : (Nat → Nat) × Bool} (h : hUp q1 q2) (k : hUp q2 q3) : hUp q1 q3 := by
  refine ⟨fun i => Nat.le_trans (h.1 i) (k.1 i), fun h3 => ?_⟩
  have m1 := hSm_mono h.1 1024
  have m2 := hSm_mono k.1 1024
  rcases k.2 h3 with h2 | h2
  · rcases h.2 h2 with h1 | h1
    · exact Or.inl h1
    · exact Or.inr (by omega)
  · exact Or.inr (by omega)
theorem hUp_add (q : (Nat → Nat) × Bool) {j : Nat} (g : Nat) (hj : j < 1024) : hUp q (hAdd q j g) := by
  unfold hAdd
  by_cases c : q.1 j ||| g = q.1 j
  · rw [if_pos c]; exact hUp_rfl q
  · rw [if_neg c]
    have hle : ∀ i, q.1 i ≤ (fun i => if i = j then q.1 j ||| g else q.1 i) i := by
      intro i
      dsimp only
      split
      · rename_i e; rw [e]; exact Nat.left_le_or
      · exact Nat.le_refl _
    refine ⟨hle, fun _ => Or.inr (hSm_lt hle (j := j) ?_ 1024 hj)⟩
    show q.1 j < if j = j then q.1 j ||| g else q.1 j
    rw [if_pos rfl]
    have : q.1 j ≤ q.1 j ||| g := Nat.left_le_or
    omega
theorem hUp_ct {kl : List (Nat × Nat × Nat × Nat × Nat)} {i : Nat} (hat : ∀ (k : Nat) (y : Nat × Nat × Nat × Nat × Nat), kl[k]? = some y → y.2.2.2.1 < 1024) : ∀ (n k : Nat) (q : (Nat → Nat) × Bool), hUp q (hCt kl i n k q) := by
  intro n
  induction n with
  | zero => intro k q; exact hUp_rfl q
  | succ n ih =>
    intro k q
    rw [hCt]
    refine hUp_trans ?_ (ih (k + 1) _)
    cases hk : kl[k]? with
    | none => exact hUp_rfl q
    | some y =>
      dsimp only
      split
      · exact hUp_add q 2 (hat k y hk)
      · exact hUp_rfl q
