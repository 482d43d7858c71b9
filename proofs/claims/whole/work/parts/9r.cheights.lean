/-! Heights: one function for both sides; the class's sweeps. -/
/-- one more height at an instruction -/
def hAdd (q : (Nat → Nat) × Bool) (j g : Nat) : (Nat → Nat) × Bool := if q.1 j ||| g = q.1 j then q else (fun i => if i = j then q.1 j ||| g else q.1 i, true)
/-- the catches from k on -/
def hCt (kl : List (Nat × Nat × Nat × Nat × Nat)) (i : Nat) : Nat → Nat → (Nat → Nat) × Bool → (Nat → Nat) × Bool
  | 0, _, q => q
  | n + 1, k, q => hCt kl i n (k + 1) (match kl[k]? with
    | some y => if y.2.1 ≤ i ∧ i < y.2.2.1 then hAdd q y.2.2.2.1 2 else q
    | none => q)
/-- one instruction -/
def hSp (bl : List jB) (kl : List (Nat × Nat × Nat × Nat × Nat)) (cs ce i : Nat) (x : jC) (q : (Nat → Nat) × Bool) : (Nat → Nat) × Bool := if hGd (q.1 i) (tkX bl x) (lvX bl x) = 0 then q
  else hCt kl i (ce - cs) cs (let g := hGd (q.1 i) (tkX bl x) (lvX bl x)
    let q1 := if fal x.1 = true then hAdd q (i + 1) g else q
    if 19 ≤ x.1 ∧ x.1 ≤ 29 then hAdd q1 x.2.1.toNat g else q1)
/-- the instructions from i on -/
def hSw (bl : List jB) (z : jL) (cs ce : Nat) : Nat → Nat → (Nat → Nat) × Bool → (Nat → Nat) × Bool
  | 0, _, q => q
  | n + 1, i, q => hSw bl z cs ce n (i + 1) (match z.1[i]? with
    | some x => hSp bl z.2.2.1 cs ce i x q
    | none => q)
def hLt (M : Nat → Nat) : Prop := ∀ i, M i < 512
theorem hAdd_lt {q : (Nat → Nat) × Bool} {j g : Nat} (h : hLt q.1) (hg : g < 512) : hLt (hAdd q j g).1 := by
  unfold hAdd
  split
  · exact h
  · intro i
    dsimp only
    split
    · exact (ior_n (h j) hg).2
    · exact h i
theorem hCt_lt {kl : List (Nat × Nat × Nat × Nat × Nat)} {i : Nat} : ∀ (n k : Nat) (q : (Nat → Nat) × Bool), hLt q.1 → hLt (hCt kl i n k q).1 := by
  intro n
  induction n with
  | zero => intro k q h; exact h
  | succ n ih =>
    intro k q h
    rw [hCt]
    refine ih (k + 1) _ ?_
    split
    · split
      · exact hAdd_lt h (by decide)
      · exact h
    · exact h
section CHT
variable {ns : List (List Int)} {us : List Int} {fl : List (List Int × Nat × Int)} {bl : List jB} {z : jL} {Q : Nat}
/-- the class's masks (cell 87), its flag (cell 86, 7) -/
def cHm (e : Nat × Nat × Nat × Nat) (S : nk_S) (q : (Nat → Nat) × Bool) : Prop := (∀ i, e.1 ≤ i → i < e.2.1 → S.1 87 i = (q.1 i : Int)) ∧ S.1 86 7 = bi q.2 ∧ hLt q.1
def hFr (S S' : nk_S) : Prop := S'.2 = S.2 ∧ (∀ a, a ≠ 86 → a ≠ 87 → S'.1 a = S.1 a) ∧ ∀ i, i ≠ 7 → S'.1 86 i = S.1 86 i
theorem hFr_trans {S1 S2 S3 : nk_S} (h : hFr S1 S2) (k : hFr S2 S3) : hFr S1 S3 := ⟨k.1.trans h.1, fun a x y => (k.2.1 a x y).trans (h.2.1 a x y), fun i x => (k.2.2 i x).trans (h.2.2 i x)⟩
theorem hFr_rfl {S : nk_S} : hFr S S := ⟨rfl, fun _ _ _ => rfl, fun _ _ => rfl⟩
theorem c_addH {e : Nat × Nat × Nat × Nat} {S : nk_S} {q : (Nat → Nat) × Bool} (hQ : S.2 86 0 = Q) (hm : cHm e S q) {n j g : Nat} (hn : S.1 Q 3 = (n : Int)) (hj1 : e.1 ≤ j) (hj2 : j < e.2.1) (hj : j < n) (hn2 : n ≤ 1024) (hg : g < 512) : ∃ S', ja_X9_addHeights 86 (j : Int) (g : Int) S = some (0, S') ∧ hFr S S' ∧ cHm e S' (hAdd q j g) := by
  obtain ⟨m1, m2, m3⟩ := hm
  obtain ⟨o1, o2⟩ := ior_n (m3 j) hg
  unfold ja_X9_addHeights hAdd
  rw [if_neg (show ¬ (j : Int) < 0 by omega), hQ, hn, if_neg (by omega), if_pos (in_i (N := 1024) (by omega)), jc_86_2, Int.toNat_natCast, m1 j hj1 hj2, o1]
  by_cases c : q.1 j ||| g = q.1 j
  · rw [if_pos (show ((q.1 j ||| g : Nat) : Int) = (q.1 j : Int) by omega), if_pos c]
    exact ⟨S, rfl, hFr_rfl, m1, m2, m3⟩
  · rw [if_neg (show ¬ ((q.1 j ||| g : Nat) : Int) = (q.1 j : Int) by omega), if_neg c, lt_eq, lt_eq]
    refine ⟨_, rfl, ⟨rfl, fun a x y => by rw [wi_n x, wi_n y], fun i hi => by rw [wi_at, if_neg hi, wi_n (by decide)]⟩, fun i hi hi2 => ?_, by rw [wi_at, if_pos rfl]; rfl, fun i => ?_⟩
    · rw [wi_n (by decide), wi_at]
      dsimp only
      by_cases e : i = j
      · rw [if_pos e, if_pos e]
      · rw [if_neg e, if_neg e]; exact m1 i hi hi2
    · dsimp only
      split
      · exact o2
      · exact m3 i
theorem c_addH0 {S : nk_S} (g : Int) : ja_X9_addHeights 86 (-1) g S = some (0, S) := by
  unfold ja_X9_addHeights
  rw [if_pos (by decide)]
/-- what the class looks at -/
def cHv (S : nk_S) (Q : Nat) (bl : List jB) (z : jL) (el : List (Nat × Nat × Nat × Nat)) : Prop := S.2 86 0 = Q ∧ cCd S Q z.1 ∧ cKl S Q z.2.2.1 ∧ cEl S Q el ∧ (∀ (b : Nat) (y : jB), bl[b]? = some y → S.1 (Q + 13) b = (y.ps.length : Int) ∧ S.1 (Q + 15) b = y.rs) ∧ bl.length ≤ 48 ∧ z.1.length ≤ 1024 ∧ z.2.2.1.length ≤ 64 ∧ el.length = bl.length
theorem cHv_F (hQ : Q = 13 ∨ Q = 49) {el : List (Nat × Nat × Nat × Nat)} {S S' : nk_S} (h : hFr S S') (hv : cHv S Q bl z el) : cHv S' Q bl z el := by
  have k := h.2.1
  unfold cHv cCd cKl cEl at hv ⊢
  rw [h.1, k Q (by omega) (by omega), k (Q + 25) (by omega) (by omega), k (Q + 26) (by omega) (by omega), k (Q + 27) (by omega) (by omega), k (Q + 28) (by omega) (by omega), k (Q + 29) (by omega) (by omega), k (Q + 32) (by omega) (by omega), k (Q + 33) (by omega) (by omega), k (Q + 34) (by omega) (by omega), k (Q + 35) (by omega) (by omega), k (Q + 18) (by omega) (by omega), k (Q + 19) (by omega) (by omega), k (Q + 20) (by omega) (by omega), k (Q + 21) (by omega) (by omega), k (Q + 13) (by omega) (by omega), k (Q + 15) (by omega) (by omega)]
  exact hv
theorem c_cov (hQ : Q = 13 ∨ Q = 49) {S : nk_S} (hK : cKl S Q z.2.2.1) {k i : Nat} {y : Nat × Nat × Nat × Nat × Nat} (hy : z.2.2.1[k]? = some y) (h64 : z.2.2.1.length ≤ 64) : ja_X3_covers Q (k : Int) (i : Int) S = some (bi (decide (y.2.1 ≤ i ∧ i < y.2.2.1)), S) := by
  have hk := at_lt hy
  obtain ⟨k1, k2, -⟩ := hK.2 k y hy
  unfold ja_X3_covers
  rw [if_pos (in_i (N := 64) (by omega)), (jc_Qp hQ).2.2.2.2.2.2.2.2.1, (jc_Qp hQ).2.2.2.2.2.2.2.2.2.1, Int.toNat_natCast, k1, k2]
  by_cases c1 : i < y.2.1
  · rw [if_pos (show (i : Int) < (y.2.1 : Int) by omega), decide_eq_false (by omega)]; rfl
  rw [if_neg (show ¬ (i : Int) < (y.2.1 : Int) by omega)]
  by_cases c2 : y.2.2.1 ≤ i
  · rw [if_pos (show (y.2.2.1 : Int) ≤ (i : Int) by omega), decide_eq_false (by omega)]; rfl
  rw [if_neg (show ¬ (y.2.2.1 : Int) ≤ (i : Int) by omega), decide_eq_true (by omega)]; rfl
theorem c_ctL (hQ : Q = 13 ∨ Q = 49) {el : List (Nat × Nat × Nat × Nat)} {i b : Nat} {e : Nat × Nat × Nat × Nat} {xb : jB} (he : el[b]? = some e) (hw : wB ns us fl bl z b xb e) (hat : ∀ (k : Nat) (y : Nat × Nat × Nat × Nat × Nat), z.2.2.1[k]? = some y → y.2.2.2.1 < z.1.length) (hce : e.2.2.2 ≤ z.2.2.1.length) : ∀ (d k m : Nat) (q : (Nat → Nat) × Bool) (S : nk_S), cHv S Q bl z el → cHm e S q → e.2.2.1 ≤ k → k + d = e.2.2.2 → d < m → ∃ S', ja_X9_spreadHeights_L105 m 86 (i : Int) (b : Int) (k : Int) S = some (0, S') ∧ hFr S S' ∧ cHm e S' (hCt z.2.2.1 i d k q) := by
  intro d
  induction d with
  | zero =>
    intro k m q S hv hm h0 h1 h2
    obtain ⟨m, rfl⟩ : ∃ q, m = q + 1 := ⟨m - 1, by omega⟩
    obtain ⟨v1, v2, v3, v4, v5, v6, v7, v8, v9⟩ := hv
    have hb := at_lt he
    refine ⟨S, ?_, hFr_rfl, hm⟩
    show ja_X9_spreadHeights_b105 (ja_X9_spreadHeights_L105 m) 86 (i : Int) (b : Int) (k : Int) S = _
    unfold ja_X9_spreadHeights_b105
    rw [if_pos (in_i (N := 48) (by omega)), v1, (jc_Qf hQ).2.2.2.2, (jc_Qb hQ).2.2.2.2.1, Int.toNat_natCast, (v4 b e he).2.2.2, if_pos (by omega)]
  | succ d ih =>
    intro k m q S hv hm h0 h1 h2
    obtain ⟨m, rfl⟩ : ∃ q, m = q + 1 := ⟨m - 1, by omega⟩
    have hv0 := hv
    obtain ⟨v1, v2, v3, v4, v5, v6, v7, v8, v9⟩ := hv
    have hb := at_lt he
    obtain ⟨y, hy⟩ : ∃ y, z.2.2.1[k]? = some y := ⟨z.2.2.1[k]'(by omega), List.getElem?_eq_getElem (by omega)⟩
    have ha := hat k y hy
    have hr := hw.2.2.2.2.2.2.2 k y hy ((hw.2.2.2.2.2.2.1 k y hy).mpr ⟨h0, by omega⟩)
    have k34 : S.1 (Q + 34) k = (y.2.2.2.1 : Int) := (v3.2 k y hy).2.2.1
    rw [hCt, hy]
    dsimp only
    have hstep : ja_X9_spreadHeights_L105 (m + 1) 86 (i : Int) (b : Int) (k : Int) S = if bi (decide (y.2.1 ≤ i ∧ i < y.2.2.1)) = 0 then ja_X9_spreadHeights_L105 m 86 (i : Int) (b : Int) ((k + 1 : Nat) : Int) S else nk_bd (ja_X9_addHeights 86 (y.2.2.2.1 : Int) 2 S) fun r14 S15 => ja_X9_spreadHeights_L105 m 86 (i : Int) (b : Int) ((k + 1 : Nat) : Int) S15 := by
      show ja_X9_spreadHeights_b105 (ja_X9_spreadHeights_L105 m) 86 (i : Int) (b : Int) (k : Int) S = _
      unfold ja_X9_spreadHeights_b105
      rw [if_pos (in_i (N := 48) (by omega)), v1, (jc_Qf hQ).2.2.2.2, (jc_Qb hQ).2.2.2.2.1, Int.toNat_natCast, (v4 b e he).2.2.2, if_neg (by omega), c_cov hQ v3 hy v8, bd_some, if_pos (in_i (N := 64) (by omega)), v1, (jc_Qp hQ).2.2.2.2.2.2.2.2.2.2.1, Int.toNat_natCast, k34, w_nat1 (by omega)]
      rfl
    by_cases c : y.2.1 ≤ i ∧ i < y.2.2.1
    · rw [decide_eq_true c, if_neg (show ¬ bi true = 0 by decide)] at hstep
      rw [if_pos c]
      obtain ⟨T, t1, t2, t3⟩ := c_addH v1 hm v2.1 hr.2.2.2.2.1 hr.2.2.2.2.2.1 ha v7 (show 2 < 512 by decide)
      have t1' : ja_X9_addHeights 86 (y.2.2.2.1 : Int) 2 S = some (0, T) := t1
      rw [t1', bd_some] at hstep
      obtain ⟨S', i1, i2, i3⟩ := ih (k + 1) m _ T (cHv_F hQ t2 hv0) t3 (by omega) (by omega) (by omega)
      exact ⟨S', by rw [hstep]; exact i1, hFr_trans t2 i2, i3⟩
    · rw [decide_eq_false c, if_pos (show bi false = 0 from rfl)] at hstep
      rw [if_neg c]
      obtain ⟨S', i1, i2, i3⟩ := ih (k + 1) m q S hv0 hm (by omega) (by omega) (by omega)
      exact ⟨S', by rw [hstep]; exact i1, i2, i3⟩
end CHT
