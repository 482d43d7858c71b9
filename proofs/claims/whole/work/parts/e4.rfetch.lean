/-! The reference fetches a row, and works on it. -/
def w9 (S : nk_S) (b k : Nat) (x : Nat → Int) : nk_S := nk_wi (nk_wi (nk_wi (nk_wi (nk_wi (nk_wi (nk_wi (nk_wi (nk_wi S b k (x 0)) (b + 1) k (x 1)) (b + 2) k (x 2)) (b + 3) k (x 3)) (b + 4) k (x 4)) (b + 5) k (x 5)) (b + 6) k (x 6)) (b + 7) k (x 7)) (b + 8) k (x 8)
section RFE
variable {F : Int → Prop} {S : nk_S} {P : Nat} {H lc : Nat → Nat}
theorem w9_n {b k a : Nat} {x : Nat → Int} (h : a < b ∨ b + 8 < a) : (w9 S b k x).1 a = S.1 a := by
  unfold w9
  rw [wi_n (by omega), wi_n (by omega), wi_n (by omega), wi_n (by omega), wi_n (by omega), wi_n (by omega), wi_n (by omega), wi_n (by omega), wi_n (by omega)]
theorem w9_k {b k a i : Nat} {x : Nat → Int} (h : i ≠ k) : (w9 S b k x).1 a i = S.1 a i := by
  unfold w9
  rw [wi_v, if_neg (fun q => h q.2), wi_v, if_neg (fun q => h q.2), wi_v, if_neg (fun q => h q.2), wi_v, if_neg (fun q => h q.2), wi_v, if_neg (fun q => h q.2), wi_v, if_neg (fun q => h q.2), wi_v, if_neg (fun q => h q.2), wi_v, if_neg (fun q => h q.2), wi_v, if_neg (fun q => h q.2)]
theorem w9_0 {b k : Nat} {x : Nat → Int} : (w9 S b k x).1 b k = x 0 := by
  unfold w9
  rw [wi_n (by omega), wi_n (by omega), wi_n (by omega), wi_n (by omega), wi_n (by omega), wi_n (by omega), wi_n (by omega), wi_n (by omega), wi_at, if_pos rfl]
theorem w9_1 {b k : Nat} {x : Nat → Int} : (w9 S b k x).1 (b + 1) k = x 1 := by
  unfold w9
  rw [wi_n (by omega), wi_n (by omega), wi_n (by omega), wi_n (by omega), wi_n (by omega), wi_n (by omega), wi_n (by omega), wi_at, if_pos rfl]
theorem w9_2 {b k : Nat} {x : Nat → Int} : (w9 S b k x).1 (b + 2) k = x 2 := by
  unfold w9
  rw [wi_n (by omega), wi_n (by omega), wi_n (by omega), wi_n (by omega), wi_n (by omega), wi_n (by omega), wi_at, if_pos rfl]
theorem w9_3 {b k : Nat} {x : Nat → Int} : (w9 S b k x).1 (b + 3) k = x 3 := by
  unfold w9
  rw [wi_n (by omega), wi_n (by omega), wi_n (by omega), wi_n (by omega), wi_n (by omega), wi_at, if_pos rfl]
theorem w9_4 {b k : Nat} {x : Nat → Int} : (w9 S b k x).1 (b + 4) k = x 4 := by
  unfold w9
  rw [wi_n (by omega), wi_n (by omega), wi_n (by omega), wi_n (by omega), wi_at, if_pos rfl]
theorem w9_5 {b k : Nat} {x : Nat → Int} : (w9 S b k x).1 (b + 5) k = x 5 := by
  unfold w9
  rw [wi_n (by omega), wi_n (by omega), wi_n (by omega), wi_at, if_pos rfl]
theorem w9_6 {b k : Nat} {x : Nat → Int} : (w9 S b k x).1 (b + 6) k = x 6 := by
  unfold w9
  rw [wi_n (by omega), wi_n (by omega), wi_at, if_pos rfl]
theorem w9_7 {b k : Nat} {x : Nat → Int} : (w9 S b k x).1 (b + 7) k = x 7 := by
  unfold w9
  rw [wi_n (by omega), wi_at, if_pos rfl]
theorem w9_8 {b k : Nat} {x : Nat → Int} : (w9 S b k x).1 (b + 8) k = x 8 := by
  unfold w9
  rw [wi_at, if_pos rfl]
/-- one slot of the working row changes -/
def wFo (k : Nat) (S S' : nk_S) : Prop := S'.2 = S.2 ∧ (∀ a, a < 229 ∨ 237 < a → S'.1 a = S.1 a) ∧ ∀ a i, i ≠ k → S'.1 a i = S.1 a i
theorem w9_f {k : Nat} {x : Nat → Int} : wFo k S (w9 S 229 k x) := ⟨rfl, fun a h => w9_n (by omega), fun a i h => w9_k h⟩
theorem w9_s {k : Nat} {x : Nat → Int} {w : jW} (h0 : x 0 = (w.1 : Int)) (h1 : x 1 = w.2.1.1) (h2 : x 2 = w.2.1.2) (h3 : cV (x 3) w.2.2.1) (h4 : x 4 = cpI w.2.2.2.1) (h5 : mI (x 5) w.2.2.2.2 0) (h6 : mI (x 6) w.2.2.2.2 12) (h7 : mI (x 7) w.2.2.2.2 24) (h8 : mI (x 8) w.2.2.2.2 36) : rSo (w9 S 229 k x) rWk k w := by
  refine ⟨?_, ?_, ?_, ?_, ?_, ?_, ?_, ?_, ?_⟩
  · exact (w9_0 (b := 229)).trans h0
  · exact (w9_1 (b := 229)).trans h1
  · exact (w9_2 (b := 229)).trans h2
  · show cV ((w9 S 229 k x).1 (229 + 3) k) _
    rw [w9_3]; exact h3
  · exact (w9_4 (b := 229)).trans h4
  · show mI ((w9 S 229 k x).1 (229 + 5) k) _ 0
    rw [w9_5]; exact h5
  · show mI ((w9 S 229 k x).1 (229 + 6) k) _ 12
    rw [w9_6]; exact h6
  · show mI ((w9 S 229 k x).1 (229 + 7) k) _ 24
    rw [w9_7]; exact h7
  · show mI ((w9 S 229 k x).1 (229 + 8) k) _ 36
    rw [w9_8]; exact h8
def wU9 : Nat → Int := fun j => if j = 4 then -1 else 0
/-- a slot is cleared -/
theorem r_clear {s : Nat} (hs : s < 24) : ja_X13_clear 121 (s : Int) S = some (0, w9 S 229 s wU9) ∧ rSo (w9 S 229 s wU9) rWk s wU := by
  refine ⟨?_, w9_s rfl rfl rfl cV_0 rfl (mI_0 0) (mI_0 12) (mI_0 24) (mI_0 36)⟩
  unfold ja_X13_clear
  rw [if_pos (in_i (N := 24) (by omega)), jc_121_26, jc_121_27, jc_121_28, jc_121_29, jc_121_30, jc_121_31, jc_121_32, jc_121_33, jc_121_34, Int.toNat_natCast, bt_0.1, lt_eq, lt_eq, lt_eq, lt_eq, lt_eq, lt_eq, lt_eq, lt_eq, lt_eq]
  rfl
/-- nine numbers of a slot -/
def r9 (S : nk_S) (c : Nat → Nat) (k : Nat) : Nat → Int := fun j => S.1 (c j) k
theorem r9_s {c : Nat → Nat} {j k : Nat} {w : jW} {T : nk_S} (h : rSo S c j w) : rSo (w9 T 229 k (r9 S c j)) rWk k w := by
  obtain ⟨h0, h1, h2, h3, h4, h5, h6, h7, h8⟩ := h
  exact w9_s h0 h1 h2 h3 h4 h5 h6 h7 h8
theorem r_put {a b : Nat} (ha : a < 24) (hb : b < 24) {w : jW} (ow : wOk F w) (hw : rSo S rWk a w) (hne : a ≠ b) : ja_X13_put 121 (a : Int) (b : Int) S = some (0, w9 S 229 b (r9 S rWk a)) ∧ rSo (w9 S 229 b (r9 S rWk a)) rWk b w := by
  refine ⟨?_, r9_s hw⟩
  have k0 := wOk_k ow
  have e0 : nk_i2b (S.1 229 a) = S.1 229 a := i2b_k (by rw [show S.1 229 a = (w.1 : Int) from hw.1]; omega)
  have v : ∀ (T : nk_S) (c : Nat) (y : Int), (nk_wi T c b y).1 = (nk_wi T c b y).1 := fun _ _ _ => rfl
  unfold ja_X13_put
  rw [if_pos (in_i (N := 24) (by omega)), if_pos (in_i (N := 24) (by omega)), jc_121_26, jc_121_27, jc_121_28, jc_121_29, jc_121_30, jc_121_31, jc_121_32, jc_121_33, jc_121_34, Int.toNat_natCast, Int.toNat_natCast, e0]
  rw [lt_eq, wi_n (b := 230) (by omega)]
  rw [lt_eq, wi_n (b := 231) (by omega), wi_n (b := 231) (by omega)]
  rw [lt_eq, wi_n (b := 232) (by omega), wi_n (b := 232) (by omega), wi_n (b := 232) (by omega)]
  rw [lt_eq, wi_n (b := 233) (by omega), wi_n (b := 233) (by omega), wi_n (b := 233) (by omega), wi_n (b := 233) (by omega)]
  rw [lt_eq, wi_n (b := 234) (by omega), wi_n (b := 234) (by omega), wi_n (b := 234) (by omega), wi_n (b := 234) (by omega), wi_n (b := 234) (by omega)]
  rw [lt_eq, wi_n (b := 235) (by omega), wi_n (b := 235) (by omega), wi_n (b := 235) (by omega), wi_n (b := 235) (by omega), wi_n (b := 235) (by omega), wi_n (b := 235) (by omega)]
  rw [lt_eq, wi_n (b := 236) (by omega), wi_n (b := 236) (by omega), wi_n (b := 236) (by omega), wi_n (b := 236) (by omega), wi_n (b := 236) (by omega), wi_n (b := 236) (by omega), wi_n (b := 236) (by omega)]
  rw [lt_eq, wi_n (b := 237) (by omega), wi_n (b := 237) (by omega), wi_n (b := 237) (by omega), wi_n (b := 237) (by omega), wi_n (b := 237) (by omega), wi_n (b := 237) (by omega), wi_n (b := 237) (by omega), wi_n (b := 237) (by omega)]
  rw [lt_eq]
  rfl
/-- a row is fetched -/
theorem r_feL (hP : P = 122 ∨ P = 168) {i : Nat} (hi : i < 1024) {t : Nat} (ht : t ≤ 20) {u : jQ} (hu : ∀ k, wOk F (u k)) (hA : ∀ k, k < t → rSo S (rSt P) (i * 20 + k) (u k)) : ∀ (d s m : Nat) (T : nk_S), s + d = t → d < m → T.2 = S.2 → T.1 121 25 = (t : Int) → (∀ a, a < 229 ∨ 237 < a → a ≠ 121 → T.1 a = S.1 a) → (∀ f, f ≠ 25 → T.1 121 f = S.1 121 f) → (∀ k, k < s → rSo T rWk k (u k)) → ∃ T', ja_X13_fetch_L15 m 121 P (i : Int) (s : Int) T = some (0, T') ∧ T'.2 = S.2 ∧ (∀ a, a < 229 ∨ 237 < a → a ≠ 121 → T'.1 a = S.1 a) ∧ (∀ f, f ≠ 25 → T'.1 121 f = S.1 121 f) ∧ rRw T' t u := by
  obtain ⟨c0, c1, c2, c3, c4, c5, c6, c7, c8, -, -⟩ := jc_Ps hP
  intro d
  induction d with
  | zero =>
    intro s m T h1 h2 t2 h25 tn tf hd
    obtain ⟨m, rfl⟩ : ∃ q, m = q + 1 := ⟨m - 1, by omega⟩
    refine ⟨T, ?_, t2, tn, tf, h25, fun k hk => hd k (by omega)⟩
    show ja_X13_fetch_b15 _ 121 P _ _ _ = _
    unfold ja_X13_fetch_b15
    rw [h25, if_pos (by omega)]
  | succ d ih =>
    intro s m T h1 h2 t2 h25 tn tf hd
    obtain ⟨m, rfl⟩ : ∃ q, m = q + 1 := ⟨m - 1, by omega⟩
    have hidx : ∀ _ : Unit, nk_w (nk_w ((i : Int) * 20) + (s : Int)) = ((i * 20 + s : Nat) : Int) := fun _ => by
      have h2 : ((i * 20 + s : Nat) : Int) = (i : Int) * 20 + (s : Int) := by omega
      rw [h2, nk_w_id (z := (i : Int) * 20) (by omega) (by omega), nk_w_id (z := (i : Int) * 20 + (s : Int)) (by omega) (by omega)]
    have es : ∀ _ : Unit, nk_w ((s : Int) + 1) = ((s + 1 : Nat) : Int) := fun _ => w_nat1 (by omega)
    have hsT : rSo T (rSt P) (i * 20 + s) (u s) := rSo_c (fun q hq => by rw [tn (rSt P q) (by unfold rSt; omega) (by unfold rSt; omega)]) (hA s (by omega))
    have k0 := wOk_k (hu s)
    have e0 : nk_i2b (T.1 (P + 28) (i * 20 + s)) = T.1 (P + 28) (i * 20 + s) := i2b_k (by rw [show T.1 (P + 28) (i * 20 + s) = ((u s).1 : Int) from hsT.1]; omega)
    obtain ⟨T1, hT1⟩ : ∃ T1, T1 = w9 T 229 s (r9 T (rSt P) (i * 20 + s)) := ⟨_, rfl⟩
    have f1 : wFo s T T1 := by rw [hT1]; exact w9_f
    obtain ⟨T', g1, g2⟩ := ih (s + 1) m T1 (by omega) (by omega) (by rw [f1.1, t2]) (by rw [f1.2.1 121 (by omega)]; exact h25) (fun a h1 h2 => by rw [f1.2.1 a h1, tn a h1 h2]) (fun f hf => by rw [f1.2.1 121 (by omega)]; exact tf f hf) (fun k hk => by
      by_cases e : k = s
      · rw [e, hT1]; exact r9_s hsT
      · exact rSo_c (fun q hq => f1.2.2 _ _ e) (hd k (by omega)))
    refine ⟨T', ?_, g2⟩
    show ja_X13_fetch_b15 (ja_X13_fetch_L15 m) 121 P _ _ _ = _
    unfold ja_X13_fetch_b15 ja_X13_fetch_b23
    rw [h25, if_neg (by omega), hidx (), lt_eq, if_pos (in_i (N := 20480) (by omega)), if_pos (in_i (N := 24) (by omega)), c0, c1, c2, c3, c4, c5, c6, c7, c8, jc_121_26, jc_121_27, jc_121_28, jc_121_29, jc_121_30, jc_121_31, jc_121_32, jc_121_33, jc_121_34, Int.toNat_natCast, Int.toNat_natCast, e0, es ()]
    rw [lt_eq, wi_n (b := P + 29) (by omega)]
    rw [lt_eq, wi_n (b := P + 30) (by omega), wi_n (b := P + 30) (by omega)]
    rw [lt_eq, wi_n (b := P + 31) (by omega), wi_n (b := P + 31) (by omega), wi_n (b := P + 31) (by omega)]
    rw [lt_eq, wi_n (b := P + 32) (by omega), wi_n (b := P + 32) (by omega), wi_n (b := P + 32) (by omega), wi_n (b := P + 32) (by omega)]
    rw [lt_eq, wi_n (b := P + 33) (by omega), wi_n (b := P + 33) (by omega), wi_n (b := P + 33) (by omega), wi_n (b := P + 33) (by omega), wi_n (b := P + 33) (by omega)]
    rw [lt_eq, wi_n (b := P + 34) (by omega), wi_n (b := P + 34) (by omega), wi_n (b := P + 34) (by omega), wi_n (b := P + 34) (by omega), wi_n (b := P + 34) (by omega), wi_n (b := P + 34) (by omega)]
    rw [lt_eq, wi_n (b := P + 35) (by omega), wi_n (b := P + 35) (by omega), wi_n (b := P + 35) (by omega), wi_n (b := P + 35) (by omega), wi_n (b := P + 35) (by omega), wi_n (b := P + 35) (by omega), wi_n (b := P + 35) (by omega)]
    rw [lt_eq, wi_n (b := P + 36) (by omega), wi_n (b := P + 36) (by omega), wi_n (b := P + 36) (by omega), wi_n (b := P + 36) (by omega), wi_n (b := P + 36) (by omega), wi_n (b := P + 36) (by omega), wi_n (b := P + 36) (by omega), wi_n (b := P + 36) (by omega)]
    rw [lt_eq, lt_eq]
    have e1 : T1 = nk_wi (nk_wi (nk_wi (nk_wi (nk_wi (nk_wi (nk_wi (nk_wi (nk_wi T 229 s (T.1 (P + 28) (i * 20 + s))) 230 s (T.1 (P + 29) (i * 20 + s))) 231 s (T.1 (P + 30) (i * 20 + s))) 232 s (T.1 (P + 31) (i * 20 + s))) 233 s (T.1 (P + 32) (i * 20 + s))) 234 s (T.1 (P + 33) (i * 20 + s))) 235 s (T.1 (P + 34) (i * 20 + s))) 236 s (T.1 (P + 35) (i * 20 + s))) 237 s (T.1 (P + 36) (i * 20 + s)) := hT1
    rw [← e1]
    exact g1
theorem r_fetch (hP : P = 122 ∨ P = 168) {A : jA} {i : Nat} (hi : i < 1024) (hH : H i ≤ 8) {u : jQ} (hu : ∀ k, wOk F (u k)) (hA : rAm H S P A) (hAi : A i = some u) (hh : S.1 (P + 19) i = (H i : Int)) : ∃ S', ja_X13_fetch 121 P (i : Int) S = some (0, S') ∧ S'.2 = S.2 ∧ (∀ a, a < 229 ∨ 237 < a → a ≠ 121 → S'.1 a = S.1 a) ∧ (∀ f, f ≠ 25 → S'.1 121 f = S.1 121 f) ∧ rRw S' (12 + H i) u := by
  obtain ⟨-, -, -, -, -, -, -, -, -, -, c19⟩ := jc_Ps hP
  obtain ⟨bm, hbm⟩ := big_ge 100 (by decide)
  obtain ⟨T, hT⟩ : ∃ T, T = nk_wi S 121 25 ((12 + H i : Nat) : Int) := ⟨_, rfl⟩
  obtain ⟨T', g1, g2⟩ := r_feL (S := S) hP hi (t := 12 + H i) (by omega) hu (fun k hk => hA.2 i u hAi k hk) (12 + H i) 0 nk_big T (by omega) (by omega) (by rw [hT]; rfl) (by rw [hT, wi_at, if_pos rfl]) (fun a _ ha => by rw [hT, wi_n ha]) (fun f hf => by rw [hT, wi_at, if_neg hf]) (fun k hk => by omega)
  refine ⟨T', ?_, g2⟩
  unfold ja_X13_fetch
  rw [if_pos (in_i (N := 1024) (by omega)), c19, Int.toNat_natCast, hh, wi12 (by omega), lt_eq, ← hT]
  exact g1
end RFE
