/-! The reference finds a word in a row of words. -/
section AMG
variable {S : nk_S} {f t k : Nat}
/-- the letters are compared -/
theorem am_57 {rec6 : Nat → Int → Int → Nat → Int → Int → nk_S → Option (Int × nk_S)} {p e n : Nat} {j : Int} {w : List Int} (h : okt k) (hn : t - f = n) (hft : f ≤ t) (ht : t ≤ 16000) (hw : w.length = n) (hx : ∀ i, i < n → p + i < (txt k).length ∧ (txt k).getD (p + i) 0 = w.getD i 0) : ∀ (d m i : Nat), i + d = n → d + 1 < m → ja_X13_among_L57 rec6 m 121 (f : Int) (t : Int) k j (p : Int) (e : Int) 1 (i : Int) S = if sg (S.1 215) (f + i) t = w.drop i then some (j, S) else rec6 121 (f : Int) (t : Int) k (nk_w (j + 1)) (nk_w ((e : Int) + 1)) S := by
  intro d
  induction d with
  | zero =>
    intro m i h1 h2
    obtain ⟨m, rfl⟩ : ∃ q, m = q + 1 := ⟨m - 1, by omega⟩
    show ja_X13_among_b57 rec6 (ja_X13_among_L57 rec6 m) 121 _ _ _ _ _ _ _ _ S = _
    unfold ja_X13_among_b57
    rw [if_neg (by decide), w_sub hft (by omega), if_pos (by omega), sg_nil _ (by omega), List.drop_eq_nil_of_le (by omega), if_pos rfl]
    unfold ja_X13_among_b104
    rw [if_neg (by decide)]
  | succ d ih =>
    intro m i h1 h2
    obtain ⟨m, rfl⟩ : ∃ q, m = q + 1 := ⟨m - 1, by omega⟩
    have ih1 := ih m (i + 1) (by omega) (by omega)
    obtain ⟨x1, x2⟩ := hx i (by omega)
    have hl := h.1
    rw [txt_len] at x1
    show ja_X13_among_b57 rec6 (ja_X13_among_L57 rec6 m) 121 _ _ _ _ _ _ _ _ S = _
    unfold ja_X13_among_b57
    rw [if_neg (by decide), w_sub hft (by omega), if_neg (by omega), w_nat (by omega), if_pos (in_i (N := 16000) (by omega)), w_nat (by omega), jchr h (by rw [txt_len]; exact x1), bd_some, jc_121_6, Int.toNat_natCast, x2]
    have hd : w.drop i = w.getD i 0 :: w.drop (i + 1) := by
      rw [List.drop_eq_getElem_cons (by omega), List.getD_eq_getElem?_getD, List.getElem?_eq_getElem (by omega)]
      rfl
    rw [sg_cons _ (show f + i < t by omega), hd]
    by_cases q : S.1 215 (f + i) = w.getD i 0
    · rw [if_pos q, lt_eq, w_nat1 (by omega), ih1]
      by_cases q2 : sg (S.1 215) (f + (i + 1)) t = w.drop (i + 1)
      · rw [if_pos q2, if_pos (by rw [q, ← q2]; rfl)]
      · rw [if_neg q2, if_neg (show ¬ (S.1 215 (f + i) :: sg (S.1 215) (f + i + 1) t = w.getD i 0 :: w.drop (i + 1)) from fun e => q2 (List.cons.inj e).2)]
    · rw [if_neg q, lt_eq, w_nat1 (by omega), if_neg (fun e => q (List.cons.inj e).1)]
      obtain ⟨m, rfl⟩ : ∃ q, m = q + 1 := ⟨m - 1, by omega⟩
      show ja_X13_among_b57 rec6 (ja_X13_among_L57 rec6 m) 121 _ _ _ _ _ _ _ _ S = _
      unfold ja_X13_among_b57 ja_X13_among_b104
      rw [if_pos rfl, if_pos rfl]
      rfl
/-- where the word ends; then it is compared -/
theorem am_19 {rec6 : Nat → Int → Int → Nat → Int → Int → nk_S → Option (Int × nk_S)} {p : Nat} {j : Int} {w : List Int} (h : okt k) (hft : f ≤ t) (ht : t ≤ 16000) (hs : ∀ x ∈ w, ¬ x = 32) (hx : ∀ i, i < w.length → (txt k).getD (p + i) 0 = w.getD i 0) (hE : p + w.length < (txt k).length) (h32 : (txt k).getD (p + w.length) 0 = 32) : ∀ (d m i : Nat), i + d = w.length → d < m → ja_X13_among_L19 rec6 m 121 (f : Int) (t : Int) k j (p : Int) ((p + i : Nat) : Int) S = if sg (S.1 215) f t = w then some (j, S) else rec6 121 (f : Int) (t : Int) k (nk_w (j + 1)) (nk_w (((p + w.length : Nat) : Int) + 1)) S := by
  have hl := h.1
  have htl := txt_len k
  intro d
  induction d with
  | zero =>
    intro m i h1 h2
    obtain ⟨m, rfl⟩ : ∃ q, m = q + 1 := ⟨m - 1, by omega⟩
    obtain rfl : i = w.length := by omega
    show ja_X13_among_b19 rec6 (ja_X13_among_L19 rec6 m) 121 _ _ _ _ _ _ S = _
    unfold ja_X13_among_b19
    rw [jchr h hE, bd_some, h32, if_pos rfl, w_sub (by omega) (by omega), w_sub hft (by omega), show p + w.length - p = w.length by omega]
    by_cases q : (w.length : Int) = ((t - f : Nat) : Int)
    · rw [if_pos q]
      have := am_57 (S := S) (rec6 := rec6) (f := f) (t := t) (k := k) (p := p) (e := p + w.length) (n := t - f) (j := j) (w := w) h rfl hft ht (by omega) (fun i hi => ⟨by omega, hx i (by omega)⟩) (t - f) nk_big 0 (by omega) (by unfold nk_big; omega)
      rw [Nat.add_zero, List.drop_zero] at this
      exact this
    · rw [if_neg q, if_neg (fun e => q (by rw [← e, sg_len]))]
      obtain ⟨m', hm'⟩ := big_ge 1 (by omega)
      rw [hm']
      show ja_X13_among_b57 rec6 (ja_X13_among_L57 rec6 m') 121 _ _ _ _ _ _ _ _ S = _
      unfold ja_X13_among_b57 ja_X13_among_b104
      rw [if_pos rfl, if_pos rfl]
      rfl
  | succ d ih =>
    intro m i h1 h2
    obtain ⟨m, rfl⟩ : ∃ q, m = q + 1 := ⟨m - 1, by omega⟩
    have ih1 := ih m (i + 1) (by omega) (by omega)
    show ja_X13_among_b19 rec6 (ja_X13_among_L19 rec6 m) 121 _ _ _ _ _ _ S = _
    unfold ja_X13_among_b19
    have hm : w.getD i 0 ∈ w := by
      rw [List.getD_eq_getElem?_getD, List.getElem?_eq_getElem (by omega)]
      exact List.getElem_mem (by omega)
    rw [jchr h (by omega), bd_some, hx i (by omega), if_neg (hs _ hm), lt_eq, w_nat1 (by omega)]
    exact ih1
/-- the row of words: a blank, and each word with a blank behind it -/
def amr (ws : List (List Int)) : List Int := 32 :: ws.flatMap (fun w => w ++ [32])
def amp (ws : List (List Int)) (j : Nat) : Nat := 1 + ((ws.take j).flatMap (fun w => w ++ [32])).length
def amx (l : List Int) : List (List Int) → Int → Int
  | [], _ => -1
  | w :: ws, j => if l = w then j else amx l ws (j + 1)
theorem amp_succ {ws : List (List Int)} {j : Nat} (h : j < ws.length) : amp ws (j + 1) = amp ws j + (ws.getD j []).length + 1 := by
  unfold amp
  rw [List.take_add_one, List.getElem?_eq_getElem h, List.flatMap_append, List.length_append, List.getD_eq_getElem?_getD, List.getElem?_eq_getElem h]
  simp
  omega
theorem amr_drop {ws : List (List Int)} {j : Nat} (h : j < ws.length) : (amr ws).drop (amp ws j) = (ws.getD j [] ++ [32]) ++ (ws.drop (j + 1)).flatMap (fun w => w ++ [32]) := by
  unfold amr amp
  rw [Nat.add_comm, List.drop_succ_cons]
  have e : ws.flatMap (fun w => w ++ [32]) = (ws.take j).flatMap (fun w => w ++ [32]) ++ (ws.drop j).flatMap (fun w => w ++ [32]) := by
    rw [← List.flatMap_append, List.take_append_drop]
  rw [e, List.drop_left, List.drop_eq_getElem_cons h, List.flatMap_cons, List.getD_eq_getElem?_getD, List.getElem?_eq_getElem h]
  rfl
theorem am_L {ws : List (List Int)} (hws : ws.length < 100000) (h : okt k) (hft : f ≤ t) (ht : t ≤ 16000) (hr : txt k = amr ws) (hs : ∀ w ∈ ws, ∀ x ∈ w, ¬ x = 32) : ∀ (d m j : Nat), j + d = ws.length → d < m → ja_X13_among_L6 m 121 (f : Int) (t : Int) k (j : Int) (amp ws j : Int) S = some (amx (sg (S.1 215) f t) (ws.drop j) (j : Int), S) := by
  have hl := h.1
  have htl := txt_len k
  intro d
  induction d with
  | zero =>
    intro m j h1 h2
    obtain ⟨m, rfl⟩ : ∃ q, m = q + 1 := ⟨m - 1, by omega⟩
    show ja_X13_among_b6 (ja_X13_among_L6 m) 121 _ _ _ _ _ S = _
    unfold ja_X13_among_b6
    have e : (txt k).length = amp ws j := by
      rw [hr]; unfold amr amp; rw [List.take_of_length_le (by omega), List.length_cons, Nat.add_comm]
    rw [jlen h, bd_some, if_pos (by rw [e]; exact Int.le_refl _), List.drop_eq_nil_of_le (by omega)]
    rfl
  | succ d ih =>
    intro m j h1 h2
    obtain ⟨m, rfl⟩ : ∃ q, m = q + 1 := ⟨m - 1, by omega⟩
    have hj : j < ws.length := by omega
    have hd := amr_drop hj
    rw [← hr] at hd
    have hlen : amp ws j + (ws.getD j []).length < (txt k).length := by
      have := congrArg List.length hd
      rw [List.length_drop] at this
      simp only [List.length_append, List.length_cons, List.length_nil] at this
      omega
    have hget : ∀ i, i ≤ (ws.getD j []).length → (txt k).getD (amp ws j + i) 0 = (ws.getD j [] ++ [32]).getD i 0 := by
      intro i hi
      have e1 : (txt k).getD (amp ws j + i) 0 = ((txt k).drop (amp ws j)).getD i 0 := by
        rw [List.getD_eq_getElem?_getD, List.getD_eq_getElem?_getD, List.getElem?_drop]
      rw [e1, hd, List.getD_eq_getElem?_getD, List.getElem?_append_left (by simp only [List.length_append, List.length_cons, List.length_nil]; omega), ← List.getD_eq_getElem?_getD]
    have ih1 := ih m (j + 1) (by omega) (by omega)
    show ja_X13_among_b6 (ja_X13_among_L6 m) 121 _ _ _ _ _ S = _
    unfold ja_X13_among_b6
    have hwm : ws.getD j [] ∈ ws := by
      rw [List.getD_eq_getElem?_getD, List.getElem?_eq_getElem hj]
      exact List.getElem_mem hj
    rw [jlen h, bd_some, if_neg (by omega)]
    have h19 := am_19 (S := S) (rec6 := ja_X13_among_L6 m) (f := f) (t := t) (k := k) (p := amp ws j) (j := (j : Int)) (w := ws.getD j []) h hft ht (hs _ hwm) (fun i hi => by
      rw [hget i (by omega), List.getD_eq_getElem?_getD, List.getElem?_append_left hi, ← List.getD_eq_getElem?_getD]) hlen (by
      rw [hget _ (Nat.le_refl _), List.getD_eq_getElem?_getD, List.getElem?_append_right (Nat.le_refl _), Nat.sub_self]; rfl) (ws.getD j []).length nk_big 0 (by omega) (by unfold nk_big; omega)
    rw [Nat.add_zero] at h19
    rw [h19, w_nat1 (by omega), w_nat1 (by omega), ← amp_succ hj, ih1]
    have e2 : ws.drop j = ws.getD j [] :: ws.drop (j + 1) := by
      rw [List.drop_eq_getElem_cons hj, List.getD_eq_getElem?_getD, List.getElem?_eq_getElem hj]
      rfl
    rw [e2, amx]
    by_cases q : sg (S.1 215) f t = ws.getD j []
    · rw [if_pos q, if_pos q]
    · rw [if_neg q, if_neg q, show ((j + 1 : Nat) : Int) = (j : Int) + 1 by omega]
theorem m_among {ws : List (List Int)} (h : okt k) (hft : f ≤ t) (ht : t ≤ 16000) (hr : txt k = amr ws) (hs : ∀ w ∈ ws, ∀ x ∈ w, ¬ x = 32) : ja_X13_among 121 (f : Int) (t : Int) k S = some (amx (sg (S.1 215) f t) ws 0, S) := by
  have h1 := h.1
  have h2 : ws.length ≤ (txt k).length := by
    rw [hr]; unfold amr
    rw [List.length_cons, List.length_flatMap]
    have : ∀ l : List (List Int), l.length ≤ (l.map (fun w => (w ++ [(32 : Int)]).length)).sum := by
      intro l
      induction l with
      | nil => simp
      | cons a l ih => simp only [List.length_cons, List.map_cons, List.sum_cons, List.length_append, List.length_nil] at ih ⊢; omega
    have := this ws
    omega
  rw [txt_len] at h2
  have := am_L (S := S) (by omega) h hft ht hr hs ws.length nk_big 0 (by omega) (by unfold nk_big; omega)
  rw [List.drop_zero] at this
  exact this
end AMG
