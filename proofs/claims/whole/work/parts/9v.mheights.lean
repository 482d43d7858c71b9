/-! Heights: the reference's sweeps. -/
/-- the catches of a body, among all -/
def hCtR (kl : List (Nat × Nat × Nat × Nat × Nat)) (b i : Nat) : Nat → Nat → (Nat → Nat) × Bool → (Nat → Nat) × Bool
  | 0, _, q => q
  | n + 1, k, q => hCtR kl b i n (k + 1) (match kl[k]? with
    | some y => if y.1 = b ∧ y.2.1 ≤ i ∧ i < y.2.2.1 then hAdd q y.2.2.2.1 2 else q
    | none => q)
theorem hCtR_add {kl : List (Nat × Nat × Nat × Nat × Nat)} {b i : Nat} : ∀ (n m k : Nat) (q : (Nat → Nat) × Bool), hCtR kl b i (n + m) k q = hCtR kl b i m (k + n) (hCtR kl b i n k q) := by
  intro n
  induction n with
  | zero => intro m k q; rw [Nat.zero_add, Nat.add_zero]; rfl
  | succ n ih =>
    intro m k q
    rw [show n + 1 + m = (n + m) + 1 by omega, hCtR, hCtR, ih, show k + 1 + n = k + (n + 1) by omega]
theorem hCtR_no {kl : List (Nat × Nat × Nat × Nat × Nat)} {b i : Nat} : ∀ (n k : Nat) (q : (Nat → Nat) × Bool), (∀ j y, k ≤ j → j < k + n → kl[j]? = some y → y.1 ≠ b) → hCtR kl b i n k q = q := by
  intro n
  induction n with
  | zero => intro k q _; rfl
  | succ n ih =>
    intro k q h
    rw [hCtR]
    cases hk : kl[k]? with
    | none => exact ih (k + 1) q (fun j y h1 h2 hy => h j y (by omega) (by omega) hy)
    | some y =>
      dsimp only
      rw [if_neg (fun hc => h k y (Nat.le_refl k) (by omega) hk hc.1)]
      exact ih (k + 1) q (fun j y h1 h2 hy => h j y (by omega) (by omega) hy)
theorem hCtR_in {kl : List (Nat × Nat × Nat × Nat × Nat)} {b i : Nat} : ∀ (n k : Nat) (q : (Nat → Nat) × Bool), (∀ j y, k ≤ j → j < k + n → kl[j]? = some y → y.1 = b) → hCtR kl b i n k q = hCt kl i n k q := by
  intro n
  induction n with
  | zero => intro k q _; rfl
  | succ n ih =>
    intro k q h
    rw [hCtR, hCt]
    cases hk : kl[k]? with
    | none => exact ih (k + 1) q (fun j y h1 h2 hy => h j y (by omega) (by omega) hy)
    | some y =>
      dsimp only
      have hb := h k y (Nat.le_refl k) (by omega) hk
      by_cases c : y.2.1 ≤ i ∧ i < y.2.2.1
      · rw [if_pos ⟨hb, c⟩, if_pos c]
        exact ih (k + 1) _ (fun j y h1 h2 hy => h j y (by omega) (by omega) hy)
      · rw [if_neg (fun hc => c hc.2), if_neg c]
        exact ih (k + 1) q (fun j y h1 h2 hy => h j y (by omega) (by omega) hy)
theorem hCtR_all {kl : List (Nat × Nat × Nat × Nat × Nat)} {b i cs ce : Nat} (h1 : cs ≤ ce) (h2 : ce ≤ kl.length) (h : ∀ (k : Nat) (y : Nat × Nat × Nat × Nat × Nat), kl[k]? = some y → (y.1 = b ↔ cs ≤ k ∧ k < ce)) (q : (Nat → Nat) × Bool) : hCtR kl b i kl.length 0 q = hCt kl i (ce - cs) cs q := by
  rw [show kl.length = cs + ((ce - cs) + (kl.length - ce)) by omega, hCtR_add, hCtR_add, hCtR_no cs 0 q (fun j y a1 a2 hy e => by have := (h j y hy).mp e; omega), Nat.zero_add, hCtR_in (ce - cs) cs q (fun j y a1 a2 hy => (h j y hy).mpr (by omega)), hCtR_no _ _ _ (fun j y a1 a2 hy e => by have := (h j y hy).mp e; omega)]
section MHT
variable {ns : List (List Int)} {us : List Int} {fl : List (List Int × Nat × Int)} {bl : List jB} {z : jL} {P : Nat}
def rHm (e : Nat × Nat × Nat × Nat) (S : nk_S) (M : Nat → Nat) : Prop := (∀ i, e.1 ≤ i → i < e.2.1 → S.1 225 i = (M i : Int)) ∧ hLt M
/-- what the reference looks at -/
def rHv (S : nk_S) (P : Nat) (bl : List jB) (z : jL) (el : List (Nat × Nat × Nat × Nat)) : Prop := rCd S P z.1 ∧ rKl S P z.2.2.1 ∧ rEl S P el ∧ (∀ (b : Nat) (y : jB), bl[b]? = some y → S.1 (P + 8) b = (y.ps.length : Int) ∧ S.1 (P + 10) b = rvT y.rs) ∧ bl.length ≤ 48 ∧ z.1.length ≤ 1024 ∧ z.2.2.1.length ≤ 64 ∧ el.length = bl.length ∧ ∀ y ∈ bl, y.rs = -1 ∨ 1 ≤ y.rs
def rHf (_P : Nat) (S S' : nk_S) : Prop := S'.2 = S.2 ∧ (∀ a, a ≠ 121 → a ≠ 225 → S'.1 a = S.1 a) ∧ ∀ i, i ≠ 12 → S'.1 121 i = S.1 121 i
theorem rHf_trans {S1 S2 S3 : nk_S} (h : rHf P S1 S2) (k : rHf P S2 S3) : rHf P S1 S3 := ⟨k.1.trans h.1, fun a x y => (k.2.1 a x y).trans (h.2.1 a x y), fun i x => (k.2.2 i x).trans (h.2.2 i x)⟩
theorem rHf_rfl {S : nk_S} : rHf P S S := ⟨rfl, fun _ _ _ => rfl, fun _ _ => rfl⟩
theorem rHv_F (hP : P = 122 ∨ P = 168) {el : List (Nat × Nat × Nat × Nat)} {S S' : nk_S} (h : rHf P S S') (hv : rHv S P bl z el) : rHv S' P bl z el := by
  have k := h.2.1
  unfold rHv rCd rKl rEl at hv ⊢
  rw [k P (by omega) (by omega), k (P + 15) (by omega) (by omega), k (P + 16) (by omega) (by omega), k (P + 17) (by omega) (by omega), k (P + 18) (by omega) (by omega), k 224 (by omega) (by omega), k (P + 21) (by omega) (by omega), k (P + 22) (by omega) (by omega), k (P + 23) (by omega) (by omega), k (P + 24) (by omega) (by omega), k (P + 25) (by omega) (by omega), k (P + 12) (by omega) (by omega), k (P + 13) (by omega) (by omega), k (P + 8) (by omega) (by omega), k (P + 10) (by omega) (by omega)]
  exact hv
theorem m_goodL (hP : P = 122 ∨ P = 168) {e : Nat × Nat × Nat × Nat} {S : nk_S} {M : Nat → Nat} (hm : rHm e S M) {i t l : Nat} (hi : i < 1024) (hi1 : e.1 ≤ i) (hi2 : i < e.2.1) (ht : ja_X13_howMany P (i : Int) S = some ((t : Int), S)) (hl : ja_X13_leaves P (i : Int) S = some ((l : Int), S)) (ht12 : t < 13) (hl2 : l < 3) : ∀ (n h m a : Nat), h + n = 9 → n < m → a < 512 → ja_X13_goodHeights_L5 m 121 P (i : Int) (a : Int) (h : Int) S = some ((hGo (M i) t l n h a : Int), S) := by
  intro n
  induction n with
  | zero =>
    intro h m a h1 h2 ha
    obtain ⟨m, rfl⟩ : ∃ q, m = q + 1 := ⟨m - 1, by omega⟩
    show ja_X13_goodHeights_b5 (ja_X13_goodHeights_L5 m) 121 P (i : Int) (a : Int) (h : Int) S = _
    unfold ja_X13_goodHeights_b5
    rw [if_pos (by omega)]
    rfl
  | succ n ih =>
    intro h m a h1 h2 ha
    obtain ⟨m, rfl⟩ : ∃ q, m = q + 1 := ⟨m - 1, by omega⟩
    have s8 := shr8 h (by omega) (M i) (hm.2 i)
    have hmi := hm.1 i hi1 hi2
    have wv : nk_w ((h : Int) - (t : Int)) = (h : Int) - (t : Int) := nk_w_id (by omega) (by omega)
    have h8 : ¬ (8 : Int) < (h : Int) := by clear wv; omega
    have hin : (0 : Int) ≤ (i : Int) ∧ (i : Int) < 1024 := in_i (N := 1024) (by clear wv; omega)
    have hn1 : h + 1 < 2147483648 := by clear wv; omega
    have hgo : ∀ a' : Nat, a' < 512 → ja_X13_goodHeights_L5 m 121 P (i : Int) (a' : Int) (nk_w ((h : Int) + 1)) S = some ((hGo (M i) t l n (h + 1) a' : Int), S) := by
      intro a' ha'
      rw [w_nat1 hn1]
      exact ih (h + 1) m a' (by clear wv; omega) (by clear wv; omega) ha'
    show ja_X13_goodHeights_b5 (ja_X13_goodHeights_L5 m) 121 P (i : Int) (a : Int) (h : Int) S = _
    unfold ja_X13_goodHeights_b5
    rw [if_neg h8, ht, bd_some, lt_eq, wv, if_pos hin, jc_121_21, Int.toNat_natCast, hmi, s8, hGo]
    clear wv
    by_cases c1 : (M i >>> h) % 2 = 1
    · rw [if_pos (show (((M i >>> h) % 2 : Nat) : Int) = 1 by omega)]
      by_cases c2 : t ≤ h
      · rw [if_neg (show ¬ (h : Int) - (t : Int) < 0 by omega), hl, bd_some]
        have wl : nk_w ((h : Int) - (t : Int) + (l : Int)) = ((h - t + l : Nat) : Int) := by
          rw [show (h : Int) - (t : Int) + (l : Int) = ((h - t + l : Nat) : Int) by omega]
          exact w_n0 (by omega)
        rw [wl]
        by_cases c3 : h - t + l ≤ 8
        · obtain ⟨p1, p2⟩ := shl1 (h - t + l) (by clear wl; omega)
          obtain ⟨q1, q2⟩ := ior_n ha p2
          have c3' : ¬ (8 : Int) < ((h - t + l : Nat) : Int) := by clear wl; omega
          rw [if_neg c3', hl, bd_some, wl, lt_eq, lt_eq, p1, q1, if_pos ⟨c1, c2, c3⟩]
          exact hgo _ q2
        · have c3' : (8 : Int) < ((h - t + l : Nat) : Int) := by clear wl; omega
          rw [if_pos c3', lt_eq, if_neg (fun hc => c3 hc.2.2)]
          exact hgo _ ha
      · rw [if_pos (show (h : Int) - (t : Int) < 0 by omega), lt_eq, if_neg (fun hc => c2 hc.2.1)]
        exact hgo _ ha
    · rw [if_neg (show ¬ (((M i >>> h) % 2 : Nat) : Int) = 1 by omega), lt_eq, if_neg (fun hc => c1 hc.1)]
      exact hgo _ ha
theorem m_good (hP : P = 122 ∨ P = 168) {e : Nat × Nat × Nat × Nat} {S : nk_S} {M : Nat → Nat} (hm : rHm e S M) {i t l : Nat} (hi : i < 1024) (hi1 : e.1 ≤ i) (hi2 : i < e.2.1) (ht : ja_X13_howMany P (i : Int) S = some ((t : Int), S)) (hl : ja_X13_leaves P (i : Int) S = some ((l : Int), S)) (ht12 : t < 13) (hl2 : l < 3) : ja_X13_goodHeights 121 P (i : Int) S = some ((hGd (M i) t l : Int), S) := by
  obtain ⟨m, hm'⟩ := big_ge 100 (by decide)
  exact m_goodL hP hm hi hi1 hi2 ht hl ht12 hl2 9 0 nk_big 0 (by omega) (by omega) (by omega)
theorem m_added {e : Nat × Nat × Nat × Nat} {S : nk_S} {q : (Nat → Nat) × Bool} (hm : rHm e S q.1) {j g : Nat} (hj : j < 1024) (hj1 : e.1 ≤ j) (hj2 : j < e.2.1) (hg : g < 512) : ∃ S', ja_X13_added 121 (j : Int) (g : Int) S = some (bi (!decide (q.1 j ||| g = q.1 j)), S') ∧ rHf P S S' ∧ rHm e S' (hAdd q j g).1 ∧ (hAdd q j g).2 = (q.2 || !decide (q.1 j ||| g = q.1 j)) := by
  obtain ⟨o1, o2⟩ := ior_n (hm.2 j) hg
  have hin : (0 : Int) ≤ (j : Int) ∧ (j : Int) < 1024 := in_i (N := 1024) (by omega)
  unfold ja_X13_added ja_X13_added_b22 hAdd
  rw [if_pos hin, jc_121_21, Int.toNat_natCast, hm.1 j hj1 hj2, o1, if_pos hin]
  by_cases c : q.1 j ||| g = q.1 j
  · rw [if_pos (show ((q.1 j ||| g : Nat) : Int) = (q.1 j : Int) by omega), if_pos c, decide_eq_true c, lt_eq]
    refine ⟨nk_wi S 225 j ((q.1 j ||| g : Nat) : Int), rfl, ⟨rfl, fun a _ x => wi_n x, fun i _ => by rw [wi_n (by decide)]⟩, ⟨fun i hi hi2 => ?_, hm.2⟩, ?_⟩
    · rw [wi_at]
      by_cases e : i = j
      · rw [if_pos e, c, e]
      · rw [if_neg e]; exact hm.1 i hi hi2
    · cases q.2 <;> rfl
  · rw [if_neg (show ¬ ((q.1 j ||| g : Nat) : Int) = (q.1 j : Int) by omega), if_neg c, decide_eq_false c, if_pos hin, lt_eq]
    refine ⟨nk_wi S 225 j ((q.1 j ||| g : Nat) : Int), rfl, ⟨rfl, fun a _ x => wi_n x, fun i _ => by rw [wi_n (by decide)]⟩, ⟨fun i hi hi2 => ?_, fun i => ?_⟩, ?_⟩
    · rw [wi_at]
      dsimp only
      by_cases e : i = j
      · rw [if_pos e, if_pos e]
      · rw [if_neg e, if_neg e]; exact hm.1 i hi hi2
    · dsimp only
      split
      · exact o2
      · exact hm.2 i
    · cases q.2 <;> rfl
theorem m_cov (hP : P = 122 ∨ P = 168) {S : nk_S} (hK : rKl S P z.2.2.1) (hC : rCd S P z.1) {k i : Nat} {y : Nat × Nat × Nat × Nat × Nat} {x : jC} (hy : z.2.2.1[k]? = some y) (hx : z.1[i]? = some x) (h64 : z.2.2.1.length ≤ 64) (hi : i < 1024) : ja_X13_covers P (k : Int) (i : Int) S = some (bi (decide (y.1 = x.2.2.2.1 ∧ y.2.1 ≤ i ∧ i < y.2.2.1)), S) := by
  have hk := at_lt hy
  obtain ⟨k1, k2, k3, -⟩ := hK.2 k y hy
  have k1' : S.1 (P + (28 - 7)) k = (y.1 : Int) := k1
  have k2' : S.1 (P + (29 - 7)) k = (y.2.1 : Int) := k2
  have k3' : S.1 (P + (30 - 7)) k = (y.2.2.1 : Int) := k3
  have c4' : S.1 (P + (25 - 7)) i = (x.2.2.2.1 : Int) := (hC.2 i x hx).2.2.2.1
  unfold ja_X13_covers
  rw [if_pos (in_i (N := 64) (by omega)), if_pos (in_i (N := 1024) (by omega)), (jcP hP 28 (by decide) : ja_c P 28 = P + 21), (jcP hP 29 (by decide) : ja_c P 29 = P + 22), (jcP hP 30 (by decide) : ja_c P 30 = P + 23), (jcP hP 25 (by decide) : ja_c P 25 = P + 18), Int.toNat_natCast, Int.toNat_natCast, k1', k2', k3', c4']
  by_cases c0 : y.1 = x.2.2.2.1
  · rw [if_pos (show (y.1 : Int) = (x.2.2.2.1 : Int) by omega)]
    by_cases c1 : i < y.2.1
    · rw [if_pos (show (i : Int) < (y.2.1 : Int) by omega), decide_eq_false (by omega)]; rfl
    rw [if_neg (show ¬ (i : Int) < (y.2.1 : Int) by omega)]
    by_cases c2 : y.2.2.1 ≤ i
    · rw [if_pos (show (y.2.2.1 : Int) ≤ (i : Int) by omega), decide_eq_false (by omega)]; rfl
    rw [if_neg (show ¬ (y.2.2.1 : Int) ≤ (i : Int) by omega), decide_eq_true (by omega)]; rfl
  · rw [if_neg (show ¬ (y.1 : Int) = (x.2.2.2.1 : Int) by omega), decide_eq_false (fun h => c0 h.1)]; rfl
theorem m_ctL (hP : P = 122 ∨ P = 168) {el : List (Nat × Nat × Nat × Nat)} {b : Nat} {xb : jB} {e : Nat × Nat × Nat × Nat} {i : Nat} {x : jC} {lb : Int} (hw : wB ns us fl bl z b xb e) (hbo : x.2.2.2.1 = b) (hx : z.1[i]? = some x) (hi : i < 1024) (hat : ∀ (k : Nat) (y : Nat × Nat × Nat × Nat × Nat), z.2.2.1[k]? = some y → y.2.2.2.1 < z.1.length) {rec44 : Nat → Nat → Int → Int → nk_S → Option (Int × nk_S)} {rec58 : Nat → Nat → Int → Int → Int → nk_S → Option (Int × nk_S)} : ∀ (d k m : Nat) (q : (Nat → Nat) × Bool) (S : nk_S), rHv S P bl z el → rHm e S q.1 → k + d = z.2.2.1.length → d < m → ∃ S', ja_X13_heights_L164 rec44 rec58 m 121 P lb (bi q.2) (i : Int) (k : Int) S = rec58 121 P lb (bi (hCtR z.2.2.1 x.2.2.2.1 i d k q).2) ((i + 1 : Nat) : Int) S' ∧ rHf P S S' ∧ rHm e S' (hCtR z.2.2.1 x.2.2.2.1 i d k q).1 := by
  intro d
  induction d with
  | zero =>
    intro k m q S hv hm h1 h2
    obtain ⟨m, rfl⟩ : ∃ q, m = q + 1 := ⟨m - 1, by omega⟩
    refine ⟨S, ?_, rHf_rfl, hm⟩
    show ja_X13_heights_b164 rec44 rec58 (ja_X13_heights_L164 rec44 rec58 m) 121 P lb (bi q.2) (i : Int) (k : Int) S = _
    unfold ja_X13_heights_b164
    rw [hv.2.1.1, if_pos (by omega), lt_eq, w_nat1 (by omega)]
    rfl
  | succ d ih =>
    intro k m q S hv hm h1 h2
    obtain ⟨m, rfl⟩ : ∃ q, m = q + 1 := ⟨m - 1, by omega⟩
    have hv0 := hv
    obtain ⟨v1, v2, v3, v4, v5, v6, v7, v8, v9⟩ := hv
    obtain ⟨y, hy⟩ : ∃ y, z.2.2.1[k]? = some y := ⟨z.2.2.1[k]'(by omega), List.getElem?_eq_getElem (by omega)⟩
    have ha := hat k y hy
    have k24 : S.1 (P + (31 - 7)) k = (y.2.2.2.1 : Int) := (v2.2 k y hy).2.2.2.1
    rw [hCtR, hy]
    dsimp only
    have hstep : ja_X13_heights_L164 rec44 rec58 (m + 1) 121 P lb (bi q.2) (i : Int) (k : Int) S = if bi (decide (y.1 = x.2.2.2.1 ∧ y.2.1 ≤ i ∧ i < y.2.2.1)) = 0 then ja_X13_heights_L164 rec44 rec58 m 121 P lb (bi q.2) (i : Int) ((k + 1 : Nat) : Int) S else nk_bd (ja_X13_added 121 (y.2.2.2.1 : Int) 2 S) fun r10 S11 => if r10 = 0 then (if bi q.2 = 0 then ja_X13_heights_L164 rec44 rec58 m 121 P lb 0 (i : Int) ((k + 1 : Nat) : Int) S11 else ja_X13_heights_L164 rec44 rec58 m 121 P lb 1 (i : Int) ((k + 1 : Nat) : Int) S11) else ja_X13_heights_L164 rec44 rec58 m 121 P lb 1 (i : Int) ((k + 1 : Nat) : Int) S11 := by
      show ja_X13_heights_b164 rec44 rec58 (ja_X13_heights_L164 rec44 rec58 m) 121 P lb (bi q.2) (i : Int) (k : Int) S = _
      unfold ja_X13_heights_b164 ja_X13_heights_b203
      rw [v2.1, if_neg (by omega), m_cov hP v2 v1 hy hx v7 hi, bd_some, if_pos (in_i (N := 64) (by omega)), (jcP hP 31 (by decide) : ja_c P 31 = P + 24), Int.toNat_natCast, k24, w_nat1 (by omega)]
      rfl
    by_cases c : y.1 = x.2.2.2.1 ∧ y.2.1 ≤ i ∧ i < y.2.2.1
    · rw [decide_eq_true c, if_neg (show ¬ bi true = 0 by decide)] at hstep
      rw [if_pos c]
      have hr := hw.2.2.2.2.2.2.2 k y hy (c.1.trans hbo)
      obtain ⟨T, t1, t2, t3, t4⟩ := m_added (P := P) hm (j := y.2.2.2.1) (g := 2) (by omega) hr.2.2.2.2.1 hr.2.2.2.2.2.1 (by decide)
      have t1' : ja_X13_added 121 (y.2.2.2.1 : Int) 2 S = some (bi (!decide (q.1 y.2.2.2.1 ||| 2 = q.1 y.2.2.2.1)), T) := t1
      rw [t1', bd_some] at hstep
      obtain ⟨S', i1, i2, i3⟩ := ih (k + 1) m (hAdd q y.2.2.2.1 2) T (rHv_F hP t2 hv0) t3 (by omega) (by omega)
      refine ⟨S', ?_, rHf_trans t2 i2, i3⟩
      rw [hstep, ← i1, t4]
      cases (!decide (q.1 y.2.2.2.1 ||| 2 = q.1 y.2.2.2.1)) with
      | false =>
        rw [if_pos (show bi false = 0 from rfl)]
        cases q.2 with
        | false => rw [if_pos (show bi false = 0 from rfl)]; rfl
        | true => rw [if_neg (show ¬ bi true = 0 by decide)]; rfl
      | true =>
        rw [if_neg (show ¬ bi true = 0 by decide)]
        cases q.2 <;> rfl
    · rw [decide_eq_false c, if_pos (show bi false = 0 from rfl)] at hstep
      rw [if_neg c]
      obtain ⟨S', i1, i2, i3⟩ := ih (k + 1) m q S hv0 hm (by omega) (by omega)
      exact ⟨S', by rw [hstep]; exact i1, i2, i3⟩
end MHT
