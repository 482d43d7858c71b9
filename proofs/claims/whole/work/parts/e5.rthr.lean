/-! The reference finds thresholds. -/
theorem idiv_2 {x : Nat} (h : x < 2147483648) : nk_idiv (x : Int) 2 = ((x / 2 : Nat) : Int) := by
  unfold nk_idiv
  rw [Int32.toInt_div, iI (show iR (x : Int) by unfold iR; omega), iI (show iR (2 : Int) by unfold iR; omega)]
  have e : Int.tdiv (x : Int) 2 = ((x / 2 : Nat) : Int) := by
    rw [Int.tdiv_eq_ediv_of_nonneg (by omega)]
    omega
  rw [e]
  exact Int.bmod_eq_of_le (by show -(2147483648 : Int) ≤ _; omega) (by show _ < (2147483648 : Int); omega)
theorem srt_card {g : Nat → Int} : ∀ (n : Nat) (L : List Int), srt g n → (∀ i, i < n → g i ∈ L) → n ≤ L.length := by
  intro n
  induction n with
  | zero => intro L _ _; omega
  | succ n ih =>
    intro L hs hm
    have h1 := hm n (by omega)
    have h2 := ih (L.erase (g n)) (fun i j hij hj => hs i j hij (by omega)) (fun i hi => (List.mem_erase_of_ne (by have := hs i n hi (by omega); omega)).mpr (hm i (by omega)))
    rw [List.length_erase_of_mem h1] at h2
    have := List.length_pos_of_mem h1
    omega
section RTH
variable {F : Int → Prop} {dn up : Int → Int} {S : nk_S} {P n : Nat}
theorem srt_le {g : Nat → Int} {n : Nat} (h : srt g n) {i j : Nat} (hij : i ≤ j) (hj : j < n) : g i ≤ g j := by
  by_cases e : i = j
  · rw [e]; exact Int.le_refl _
  · have := h i j (by omega) hj; omega
theorem r_naL (hP : P = 122 ∨ P = 168) (hs : srt (S.1 (P + 26)) n) (hn : n ≤ 3079) {v : Int} : ∀ (d lo hi m : Nat), lo + d = hi → hi < n → S.1 (P + 26) lo ≤ v → (∀ i, hi < i → i < n → v < S.1 (P + 26) i) → d < m → ∃ r, ja_X13_notAbove_L10 m P v (lo : Int) (hi : Int) S = some (S.1 (P + 26) r, S) ∧ r < n ∧ S.1 (P + 26) r ≤ v ∧ ∀ i, r < i → i < n → v < S.1 (P + 26) i := by
  have c33 : ja_c P 33 = P + 26 := by rcases hP with rfl | rfl <;> rfl
  intro d
  induction d using Nat.strongRecOn with
  | ind d ih =>
    intro lo hi m h1 h2 h3 h4 h5
    obtain ⟨m, rfl⟩ : ∃ q, m = q + 1 := ⟨m - 1, by omega⟩
    show ∃ r, ja_X13_notAbove_b10 (ja_X13_notAbove_L10 m) P v (lo : Int) (hi : Int) S = _ ∧ _
    unfold ja_X13_notAbove_b10
    by_cases hd : d = 0
    · refine ⟨lo, ?_, by omega, h3, fun i hi' => h4 i (by omega)⟩
      rw [if_pos (by omega), if_pos (in_i (N := 3079) (by omega)), c33, Int.toNat_natCast]
    · rw [if_neg (by omega)]
      have e1 : ∀ _ : Unit, nk_w (nk_w ((lo : Int) + (hi : Int)) + 1) = ((lo + hi + 1 : Nat) : Int) := fun _ => by
        rw [nk_w_id (z := (lo : Int) + (hi : Int)) (by omega) (by omega), nk_w_id (z := (lo : Int) + (hi : Int) + 1) (by omega) (by omega)]
        omega
      obtain ⟨mid, hmid⟩ : ∃ mid, mid = (lo + hi + 1) / 2 := ⟨_, rfl⟩
      rw [e1 (), idiv_2 (by omega), ← hmid, lt_eq, if_pos (in_i (N := 3079) (by omega)), c33, Int.toNat_natCast]
      by_cases c : v < S.1 (P + 26) mid
      · have e2 : ∀ _ : Unit, nk_w ((mid : Int) - 1) = ((mid - 1 : Nat) : Int) := fun _ => by
          rw [nk_w_id (z := (mid : Int) - 1) (by omega) (by omega)]
          omega
        obtain ⟨r, r1, r2⟩ := ih (mid - 1 - lo) (by omega) lo (mid - 1) m (by omega) (by omega) h3 (fun i hi' hin => by
          have := srt_le hs (show mid ≤ i by omega) hin
          omega) (by omega)
        exact ⟨r, by rw [if_pos c, e2 (), lt_eq]; exact r1, r2⟩
      · obtain ⟨r, r1, r2⟩ := ih (hi - mid) (by omega) mid hi m (by omega) h2 (by omega) h4 (by omega)
        exact ⟨r, by rw [if_neg c]; exact r1, r2⟩
theorem r_nbL (hP : P = 122 ∨ P = 168) (hs : srt (S.1 (P + 26)) n) (hn : n ≤ 3079) {v : Int} : ∀ (d lo hi m : Nat), lo + d = hi → hi < n → v ≤ S.1 (P + 26) hi → (∀ i, i < lo → S.1 (P + 26) i < v) → d < m → ∃ r, ja_X13_notBelow_L10 m P v (lo : Int) (hi : Int) S = some (S.1 (P + 26) r, S) ∧ r < n ∧ v ≤ S.1 (P + 26) r ∧ ∀ i, i < r → S.1 (P + 26) i < v := by
  have c33 : ja_c P 33 = P + 26 := by rcases hP with rfl | rfl <;> rfl
  intro d
  induction d using Nat.strongRecOn with
  | ind d ih =>
    intro lo hi m h1 h2 h3 h4 h5
    obtain ⟨m, rfl⟩ : ∃ q, m = q + 1 := ⟨m - 1, by omega⟩
    show ∃ r, ja_X13_notBelow_b10 (ja_X13_notBelow_L10 m) P v (lo : Int) (hi : Int) S = _ ∧ _
    unfold ja_X13_notBelow_b10
    by_cases hd : d = 0
    · refine ⟨lo, ?_, by omega, by rw [show lo = hi by omega]; exact h3, h4⟩
      rw [if_pos (by omega), if_pos (in_i (N := 3079) (by omega)), c33, Int.toNat_natCast]
    · rw [if_neg (by omega)]
      have e1 : ∀ _ : Unit, nk_w ((lo : Int) + (hi : Int)) = ((lo + hi : Nat) : Int) := fun _ => by
        rw [nk_w_id (z := (lo : Int) + (hi : Int)) (by omega) (by omega)]
        omega
      obtain ⟨mid, hmid⟩ : ∃ mid, mid = (lo + hi) / 2 := ⟨_, rfl⟩
      rw [e1 (), idiv_2 (by omega), ← hmid, lt_eq, if_pos (in_i (N := 3079) (by omega)), c33, Int.toNat_natCast]
      by_cases c : S.1 (P + 26) mid < v
      · have e2 : ∀ _ : Unit, nk_w ((mid : Int) + 1) = ((mid + 1 : Nat) : Int) := fun _ => w_nat1 (by omega)
        obtain ⟨r, r1, r2⟩ := ih (hi - (mid + 1)) (by omega) (mid + 1) hi m (by omega) h2 h3 (fun i hi' => by
          have := srt_le hs (show i ≤ mid by omega) (by omega)
          omega) (by omega)
        exact ⟨r, by rw [if_pos c, e2 (), lt_eq]; exact r1, r2⟩
      · obtain ⟨r, r1, r2⟩ := ih (mid - lo) (by omega) lo mid m (by omega) (by omega) (by omega) h4 (by omega)
        exact ⟨r, by rw [if_neg c]; exact r1, r2⟩
/-- the threshold that is not above, and the one that is not below -/
theorem r_thr (hP : P = 122 ∨ P = 168) (hT : thG F dn up) (ht : rTn S P n F) (hn : n ≤ 3079) {v : Int} : (-2147483648 ≤ v → ja_X13_notAbove P v S = some (dn v, S)) ∧ (v ≤ 2147483647 → ja_X13_notBelow P v S = some (up v, S)) := by
  obtain ⟨t1, t2, t3⟩ := ht
  obtain ⟨g1, g2, g3, g4, g5, g6, g7, g8⟩ := hT
  obtain ⟨i0, j1, j2⟩ := (t3 (-2147483648)).mpr g2
  obtain ⟨i9, j3, j4⟩ := (t3 2147483647).mpr g6
  have e1 : ∀ _ : Unit, nk_w ((n : Int) - 1) = ((n - 1 : Nat) : Int) := fun _ => by
    rw [nk_w_id (z := (n : Int) - 1) (by omega) (by omega)]
    omega
  obtain ⟨bm, hbm⟩ := big_ge 4000 (by decide)
  constructor
  · intro hv
    obtain ⟨r, r1, r2, r3, r4⟩ := r_naL hP t2 hn (v := v) (n - 1) 0 (n - 1) nk_big (by omega) (by omega) (by have := srt_le t2 (Nat.zero_le i0) j1; omega) (fun i h1 h2 => by omega) (by omega)
    unfold ja_X13_notAbove
    rw [t1, e1 (), lt_eq]
    have r1' : ja_X13_notAbove_L10 nk_big P v 0 ((n - 1 : Nat) : Int) S = some (S.1 (P + 26) r, S) := r1
    obtain ⟨d1, d2, d3⟩ := g7 v hv
    have h1 := d3 _ ((t3 _).mp ⟨r, r2, rfl⟩) r3
    obtain ⟨q, q1, q2⟩ := (t3 _).mpr d1
    have h2 : dn v ≤ S.1 (P + 26) r := by
      by_cases c : r < q
      · have := r4 q c q1; omega
      · have := srt_le t2 (show q ≤ r by omega) r2; omega
    rw [r1', show S.1 (P + 26) r = dn v by omega]
  · intro hv
    obtain ⟨r, r1, r2, r3, r4⟩ := r_nbL hP t2 hn (v := v) (n - 1) 0 (n - 1) nk_big (by omega) (by omega) (by have := srt_le t2 (show i9 ≤ n - 1 by omega) (by omega); omega) (fun i h1 => by omega) (by omega)
    unfold ja_X13_notBelow
    rw [t1, e1 (), lt_eq]
    have r1' : ja_X13_notBelow_L10 nk_big P v 0 ((n - 1 : Nat) : Int) S = some (S.1 (P + 26) r, S) := r1
    obtain ⟨d1, d2, d3⟩ := g8 v hv
    have h1 := d3 _ ((t3 _).mp ⟨r, r2, rfl⟩) r3
    obtain ⟨q, q1, q2⟩ := (t3 _).mpr d1
    have h2 : S.1 (P + 26) r ≤ up v := by
      by_cases c : q < r
      · have := r4 q c; omega
      · have := srt_le t2 (show r ≤ q by omega) q1; omega
    rw [r1', show S.1 (P + 26) r = up v by omega]
/-- there is room for all thresholds -/
theorem rTn_n {l : List Int} (hl : l.length ≤ 1024) (ht : rTn S P n (fun y => th7 y ∨ ∃ x ∈ l, nbr x y)) : n ≤ 3079 := by
  have := srt_card n (lTh l) ht.2.1 (fun i hi => (lTh_in _ l).mpr ((ht.2.2 _).mp ⟨i, hi, rfl⟩))
  rw [lTh_len] at this
  omega
end RTH
