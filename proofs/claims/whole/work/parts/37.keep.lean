/-! A word is found, or kept as a new one. -/
/-- the latest of the first m whose H is h -/
def hp (H : Nat → Int) (h : Int) : Nat → Int
  | 0 => -1
  | m + 1 => if H m = h then (m : Int) else hp H h m
theorem hp_congr {H H' : Nat → Int} {h : Int} : ∀ {m : Nat}, (∀ i, i < m → H i = H' i) → hp H h m = hp H' h m := by
  intro m
  induction m with
  | zero => intro _; rfl
  | succ m ih =>
    intro e
    rw [hp, hp, e m (by omega), ih (fun i hi => e i (by omega))]
def WI (S : nk_S) (c : Nat) : Prop := S.1 2 5 = (c : Int) ∧ c ≤ 12288 ∧ (∀ w, w < c → ∃ a b : Nat, S.1 5 w = (a : Int) ∧ S.1 6 w = (b : Int) ∧ a ≤ b ∧ b ≤ 16512) ∧ (∀ w w', w < c → w' < c → wd S w = wd S w' → w = w') ∧ (∀ w, w < c → S.1 7 w = hp (fun v => hx (wd S v)) (hx (wd S w)) w) ∧ ∀ h : Nat, h < 1024 → S.1 8 h = hp (fun v => hx (wd S v)) (h : Int) c
theorem kp_chain {S : nk_S} {c f t : Nat} (hW : WI S c) (hft : f ≤ t) (ht : t ≤ 16512) : ∀ (k n m : Nat), k ≤ c → n + k ≤ 12288 → k < m → (∃ w : Nat, w < k ∧ wd S w = sg (S.1 3) f t ∧ ja_X10_keep_L54 m 2 (f : Int) (t : Int) (hx (sg (S.1 3) f t)) (hp (fun v => hx (wd S v)) (hx (sg (S.1 3) f t)) k) (n : Int) S = some ((w : Int), S)) ∨ (∀ w, w < k → ¬ wd S w = sg (S.1 3) f t) ∧ ja_X10_keep_L54 m 2 (f : Int) (t : Int) (hx (sg (S.1 3) f t)) (hp (fun v => hx (wd S v)) (hx (sg (S.1 3) f t)) k) (n : Int) S = ja_X10_keep_b96 2 (f : Int) (t : Int) (hx (sg (S.1 3) f t)) S := by
  obtain ⟨w1, w2, w3, w4, w5, w6⟩ := hW
  intro k
  induction k with
  | zero =>
    intro n m _ _ hm
    obtain ⟨m, rfl⟩ : ∃ q, m = q + 1 := ⟨m - 1, by omega⟩
    refine Or.inr ⟨fun w hw => by omega, ?_⟩
    show ja_X10_keep_b54 (ja_X10_keep_L54 m) 2 _ _ _ (-1) _ S = _
    unfold ja_X10_keep_b54
    split
    · rfl
    · rw [if_pos (by omega)]
  | succ k ih =>
    intro n m hk hn hm
    by_cases hh : hx (wd S k) = hx (sg (S.1 3) f t)
    · rw [hp, if_pos hh]
      obtain ⟨m, rfl⟩ : ∃ q, m = q + 1 := ⟨m - 1, by omega⟩
      obtain ⟨a, b, ha, hb, hab, hb2⟩ := w3 k (by omega)
      obtain ⟨r, e1, e2⟩ := iw (S := S) (w := k) (f := f) (t := t) (by omega) ha hb hab hb2 hft ht
      have eL : ja_X10_keep_L54 (m + 1) 2 (f : Int) (t : Int) (hx (sg (S.1 3) f t)) (k : Int) (n : Int) S = if r = 0 then ja_X10_keep_L54 m 2 (f : Int) (t : Int) (hx (sg (S.1 3) f t)) (S.1 7 k) ((n + 1 : Nat) : Int) S else some ((k : Int), S) := by
        show ja_X10_keep_b54 (ja_X10_keep_L54 m) 2 _ _ _ _ _ S = _
        unfold ja_X10_keep_b54
        rw [if_neg (by omega), if_neg (by omega), e1, bd_some, if_pos (in_i (N := 12288) (by omega)), lt_eq, lt_eq, jc_2_8, Int.toNat_natCast, w_nat1 (by omega)]
      rcases e2 with ⟨q1, q2⟩ | ⟨q1, q2⟩
      · refine Or.inl ⟨k, by omega, q2, ?_⟩
        rw [eL, q1, if_neg (by decide)]
      · rw [q1, if_pos rfl, w5 k (by omega), hh] at eL
        rcases ih (n + 1) m (by omega) (by omega) (by omega) with ⟨w, g1, g2, g3⟩ | ⟨g1, g2⟩
        · exact Or.inl ⟨w, by omega, g2, eL.trans g3⟩
        · refine Or.inr ⟨fun w hw => ?_, eL.trans g2⟩
          by_cases e : w = k
          · subst e; exact q2
          · exact g1 w (by omega)
    · rw [hp, if_neg hh]
      rcases ih n m (by omega) (by omega) (by omega) with ⟨w, g1, g2, g3⟩ | ⟨g1, g2⟩
      · exact Or.inl ⟨w, by omega, g2, g3⟩
      · refine Or.inr ⟨fun w hw => ?_, g2⟩
        by_cases e : w = k
        · subst e; exact fun q => hh (by rw [q])
        · exact g1 w (by omega)
/-- the hash is reckoned -/
theorem kp_hash {S : nk_S} {f t : Nat} (ht : t ≤ 16512) : ∀ (d m i : Nat), i + d = t → f ≤ i → d < m → ja_X10_keep_L5 m 2 (f : Int) (t : Int) (hs (sg (S.1 3) f i)) (i : Int) S = ja_X10_keep_L54 nk_big 2 (f : Int) (t : Int) (hx (sg (S.1 3) f t)) (S.1 8 (hx (sg (S.1 3) f t)).toNat) 0 S := by
  intro d
  induction d with
  | zero =>
    intro m i h1 h2 h3
    obtain ⟨m, rfl⟩ : ∃ q, m = q + 1 := ⟨m - 1, by omega⟩
    obtain rfl : i = t := by omega
    show ja_X10_keep_b5 (ja_X10_keep_L5 m) 2 _ _ _ _ S = _
    unfold ja_X10_keep_b5
    rw [if_pos (by omega), lt_eq]
    have h := hx_rg (sg (S.1 3) f i)
    unfold hx at h
    rw [if_pos h, lt_eq, jc_2_9]
    rfl
  | succ d ih =>
    intro m i h1 h2 h3
    obtain ⟨m, rfl⟩ : ∃ q, m = q + 1 := ⟨m - 1, by omega⟩
    show ja_X10_keep_b5 (ja_X10_keep_L5 m) 2 _ _ _ _ S = _
    unfold ja_X10_keep_b5
    rw [if_neg (by omega), if_pos (in_i (N := 16512) (by omega)), lt_eq, lt_eq, jc_2_0, Int.toNat_natCast, w_nat1 (by omega), ← hs_snoc, ← sg_snoc _ _ _ h2]
    exact ih m (i + 1) (by omega) (by omega) (by omega)
def kp_add (S : nk_S) (c f t : Nat) : nk_S := nk_wi (nk_wi (nk_wi (nk_wi (nk_wi S 5 c (f : Int)) 6 c (t : Int)) 7 c (S.1 8 (hx (sg (S.1 3) f t)).toNat)) 8 (hx (sg (S.1 3) f t)).toNat (c : Int)) 2 5 ((c + 1 : Nat) : Int)
theorem kp_new {S : nk_S} {c f t : Nat} (hc : S.1 2 5 = (c : Int)) (h2 : c < 12288) : ja_X10_keep_b96 2 (f : Int) (t : Int) (hx (sg (S.1 3) f t)) S = some ((c : Int), kp_add S c f t) := by
  have h := hx_rg (sg (S.1 3) f t)
  have k1 : (c : Int) < 12288 := by omega
  have k2 := in_i k1
  have k3 : nk_w ((c : Int) + 1) = ((c + 1 : Nat) : Int) := w_nat1 (by omega)
  have k4 : nk_w (((c + 1 : Nat) : Int) - 1) = (c : Int) := by rw [nk_w_id (by omega) (by omega)]; omega
  unfold ja_X10_keep_b96
  simp +decide only [jc_2_6, jc_2_7, jc_2_8, jc_2_9, lt_eq, wi_v, hc, k1, k2, h, if_true, and_self, if_false, false_and, Int.toNat_natCast, k3, k4]
  rfl
theorem kp_add_v (S : nk_S) (c f t : Nat) (a : Nat) (h2 : a ≠ 2) (h5 : a ≠ 5) (h6 : a ≠ 6) (h7 : a ≠ 7) (h8 : a ≠ 8) : (kp_add S c f t).1 a = S.1 a := by
  unfold kp_add; rw [wi_n h2, wi_n h8, wi_n h7, wi_n h6, wi_n h5]
theorem kp_wd {S : nk_S} {c f t w : Nat} (h : w < c) : wd (kp_add S c f t) w = wd S w := by
  unfold wd kp_add
  have : ¬ w = c := by omega
  simp +decide only [wi_v, this, false_and, and_false, if_false]
  rw [wi_n (by decide), wi_n (by decide), wi_n (by decide), wi_n (by decide), wi_n (by decide)]
theorem kp_wdc {S : nk_S} {c f t : Nat} : wd (kp_add S c f t) c = sg (S.1 3) f t := by
  unfold wd kp_add
  simp +decide only [wi_v, false_and, and_self, if_true, if_false, Int.toNat_natCast]
  rw [wi_n (by decide), wi_n (by decide), wi_n (by decide), wi_n (by decide), wi_n (by decide)]
theorem kp_WI {S : nk_S} {c f t : Nat} (hW : WI S c) (hft : f ≤ t) (ht : t ≤ 16512) (h2 : c < 12288) (hn : ∀ w, w < c → ¬ wd S w = sg (S.1 3) f t) : WI (kp_add S c f t) (c + 1) := by
  obtain ⟨w1, w2, w3, w4, w5, w6⟩ := hW
  have hr := hx_rg (sg (S.1 3) f t)
  refine ⟨?_, by omega, fun w hw => ?_, fun w w' hw hw' e => ?_, fun w hw => ?_, fun h hh => ?_⟩
  · unfold kp_add; simp +decide only [wi_v, if_true]
  · by_cases e : w = c
    · subst e
      refine ⟨f, t, ?_, ?_, hft, ht⟩
      · unfold kp_add; simp +decide only [wi_v, false_and, if_false, and_self, if_true]
      · unfold kp_add; simp +decide only [wi_v, false_and, if_false, and_self, if_true]
    · obtain ⟨a, b, q1, q2, q3, q4⟩ := w3 w (by omega)
      refine ⟨a, b, ?_, ?_, q3, q4⟩
      · unfold kp_add; simp +decide only [wi_v, e, false_and, and_false, if_false]; exact q1
      · unfold kp_add; simp +decide only [wi_v, e, false_and, and_false, if_false]; exact q2
  · by_cases e1 : w = c
    · by_cases e2 : w' = c
      · omega
      · subst e1
        rw [kp_wdc, kp_wd (by omega)] at e
        exact absurd e.symm (hn w' (by omega))
    · by_cases e2 : w' = c
      · subst e2
        rw [kp_wdc, kp_wd (by omega)] at e
        exact absurd e (hn w (by omega))
      · rw [kp_wd (by omega), kp_wd (by omega)] at e
        exact w4 w w' (by omega) (by omega) e
  · by_cases e1 : w = c
    · subst e1
      rw [kp_wdc, hp_congr (H' := fun v => hx (wd S v)) (fun i hi => by rw [kp_wd (by omega)])]
      have h3 := w6 (hx (sg (S.1 3) f t)).toNat (by omega)
      rw [show (((hx (sg (S.1 3) f t)).toNat : Nat) : Int) = hx (sg (S.1 3) f t) by omega] at h3
      rw [← h3]
      unfold kp_add; simp +decide only [wi_v, false_and, if_false, and_self, if_true]
    · rw [kp_wd (by omega), hp_congr (H' := fun v => hx (wd S v)) (fun i hi => by rw [kp_wd (by omega)]), ← w5 w (by omega)]
      unfold kp_add; simp +decide only [wi_v, e1, false_and, and_false, if_false]
  · rw [hp]
    rw [kp_wdc, hp_congr (H' := fun v => hx (wd S v)) (fun i hi => by rw [kp_wd (by omega)]), ← w6 h hh]
    unfold kp_add; simp +decide only [wi_v, false_and, true_and, if_false]
    by_cases e : h = (hx (sg (S.1 3) f t)).toNat
    · rw [if_pos e, if_pos (by omega)]
    · rw [if_neg e, if_neg (by omega)]
/-- keep: the word is there, or comes as the last one -/
theorem kp {S : nk_S} {c f t : Nat} (hW : WI S c) (hft : f ≤ t) (ht : t ≤ 16512) (h2 : c < 12288) : (∃ w : Nat, w < c ∧ wd S w = sg (S.1 3) f t ∧ ja_X10_keep 2 (f : Int) (t : Int) S = some ((w : Int), S)) ∨ (∀ w, w < c → ¬ wd S w = sg (S.1 3) f t) ∧ WI (kp_add S c f t) (c + 1) ∧ ja_X10_keep 2 (f : Int) (t : Int) S = some ((c : Int), kp_add S c f t) := by
  have hr := hx_rg (sg (S.1 3) f t)
  have e1 : ja_X10_keep 2 (f : Int) (t : Int) S = ja_X10_keep_L54 nk_big 2 (f : Int) (t : Int) (hx (sg (S.1 3) f t)) (S.1 8 (hx (sg (S.1 3) f t)).toNat) 0 S := by
    have h := kp_hash (S := S) (f := f) ht (t - f) nk_big f (by omega) (by omega) (by unfold nk_big; omega)
    rw [show sg (S.1 3) f f = [] by simp [sg]] at h
    exact h
  have h3 := hW.2.2.2.2.2 (hx (sg (S.1 3) f t)).toNat (by omega)
  rw [show (((hx (sg (S.1 3) f t)).toNat : Nat) : Int) = hx (sg (S.1 3) f t) by omega] at h3
  rw [h3] at e1
  rcases kp_chain hW hft ht c 0 nk_big (by omega) (by omega) (by unfold nk_big; omega) with ⟨w, g1, g2, g3⟩ | ⟨g1, g2⟩
  · exact Or.inl ⟨w, g1, g2, e1.trans g3⟩
  · exact Or.inr ⟨g1, kp_WI hW hft ht h2 g1, e1.trans (g2.trans (kp_new hW.1 h2))⟩
