/-! Lines: the class's view; labels and catches. -/
theorem wi_at (S : nk_S) (a k : Nat) (x : Int) (i : Nat) : (nk_wi S a k x).1 a i = if i = k then x else S.1 a i := by simp only [wi_v, true_and]
def cCd (S : nk_S) (Q : Nat) (cl : List jC) : Prop := S.1 Q 3 = (cl.length : Int) ∧ ∀ (i : Nat) (x : jC), cl[i]? = some x → S.1 (Q + 25) i = (x.1 : Int) ∧ S.1 (Q + 26) i = x.2.1 ∧ S.1 (Q + 27) i = x.2.2.1 ∧ S.1 (Q + 28) i = (x.2.2.2.2 : Int) ∧ S.1 (Q + 29) i = (x.2.2.2.1 : Int)
def cSl (S : nk_S) (Q : Nat) (sl : List Int) : Prop := S.1 Q 10 = (sl.length : Int) ∧ (∀ (i : Nat) (t : Int), sl[i]? = some t → S.1 (Q + 31) i = t) ∧ ∀ i, 48 ≤ i → i < 54 → S.1 (Q + 31) i = ((8 + 2 * (i - 48) : Nat) : Int)
def cKl (S : nk_S) (Q : Nat) (kl : List (Nat × Nat × Nat × Nat × Nat)) : Prop := S.1 Q 12 = (kl.length : Int) ∧ ∀ (i : Nat) (x : Nat × Nat × Nat × Nat × Nat), kl[i]? = some x → S.1 (Q + 32) i = (x.2.1 : Int) ∧ S.1 (Q + 33) i = (x.2.2.1 : Int) ∧ S.1 (Q + 34) i = (x.2.2.2.1 : Int) ∧ S.1 (Q + 35) i = (x.2.2.2.2 : Int)
def cTh (S : nk_S) (Q : Nat) (nl : List Int) : Prop := ∃ n, n ≤ 7 + 3 * nl.length ∧ tC S (Q + 23) n (fun y => th7 y ∨ ∃ x ∈ nl, nbr x y)
def cJL (S : nk_S) (Q : Nat) (z : jL) : Prop := cCd S Q z.1 ∧ cSl S Q z.2.1 ∧ cKl S Q z.2.2.1 ∧ cTh S Q z.2.2.2
/-- how large it all is -/
def oJL (z : jL) : Prop := z.1.length ≤ 1024 ∧ z.2.1.length ≤ 48 ∧ z.2.2.1.length ≤ 64 ∧ z.2.2.2.length ≤ z.1.length
def cLb (S : nk_S) (c op : Nat) (ls : List (List Int × Nat × Nat)) : Prop := ∀ v, v < c → shp (wd S v) = 1 → match lfd (wd S v) ls with
  | some q => S.1 10 v = (q.1 : Int) ∧ S.1 11 v = (q.2 : Int) ∧ op < q.1
  | none => S.1 10 v ≤ (op : Int)
/-- what may change while a body's lines are read -/
def gF (Q : Nat) (S S' : nk_S) : Prop := S'.2 = S.2 ∧ (∀ b, b ≠ 85 → b ≠ Q → ¬ (Q + 23 ≤ b ∧ b ≤ Q + 29) → ¬ (Q + 31 ≤ b ∧ b ≤ Q + 35) → S'.1 b = S.1 b) ∧ (∀ i, i ≠ 2 → i ≠ 3 → i ≠ 4 → S'.1 85 i = S.1 85 i) ∧ ∀ i, i ≠ 3 → i ≠ 10 → i ≠ 12 → S'.1 Q i = S.1 Q i
theorem gF_trans {Q : Nat} {S1 S2 S3 : nk_S} (h : gF Q S1 S2) (k : gF Q S2 S3) : gF Q S1 S3 := ⟨k.1.trans h.1, fun b x y z w => (k.2.1 b x y z w).trans (h.2.1 b x y z w), fun i x y z => (k.2.2.1 i x y z).trans (h.2.2.1 i x y z), fun i x y z => (k.2.2.2 i x y z).trans (h.2.2.2 i x y z)⟩
theorem gF_rfl {Q : Nat} {S : nk_S} : gF Q S S := ⟨rfl, fun _ _ _ _ _ => rfl, fun _ _ _ _ => rfl, fun _ _ _ _ => rfl⟩
theorem gF_85 {Q : Nat} (hQ : Q = 13 ∨ Q = 49) {S : nk_S} {i : Nat} (hi : i = 2 ∨ i = 3 ∨ i = 4) {x : Int} : gF Q S (nk_wi S 85 i x) := ⟨rfl, fun b h _ _ _ => wi_n h, fun j a b c => by simp only [wi_v, true_and]; rw [if_neg (by omega)], fun j _ _ _ => by rw [wi_n (by omega)]⟩
section CLN
variable {tx : List (List Int)} {Q c : Nat} {ns : List (List Int)} {us : List Int}
theorem wd_gF (hQ : Q = 13 ∨ Q = 49) {S S' : nk_S} (h : gF Q S S') (w : Nat) : wd S' w = wd S w := wd_congr (h.2.1 3 (by omega) (by omega) (by omega) (by omega)) (by rw [h.2.1 5 (by omega) (by omega) (by omega) (by omega)]) (by rw [h.2.1 6 (by omega) (by omega) (by omega) (by omega)])
theorem CF_gF (hQ : Q = 13 ∨ Q = 49) {S S' : nk_S} (h : gF Q S S') (hC : CF S tx c) : CF S' tx c := CF_c (h.2.1 2 (by omega) (by omega) (by omega) (by omega)) (h.2.1 3 (by omega) (by omega) (by omega) (by omega)) (h.2.1 4 (by omega) (by omega) (by omega) (by omega)) (h.2.1 5 (by omega) (by omega) (by omega) (by omega)) (h.2.1 6 (by omega) (by omega) (by omega) (by omega)) (h.2.1 9 (by omega) (by omega) (by omega) (by omega)) hC
theorem cC_gF (hQ : Q = 13 ∨ Q = 49) {S S' : nk_S} (h : gF Q S S') (hC : cC S Q c ns us) : cC S' Q c ns us := cC_c (by rw [h.2.1 (Q + 1) (by omega) (by omega) (by omega) (by omega)]) (h.2.1 (Q + 2) (by omega) (by omega) (by omega) (by omega)) (h.2.1 (Q + 3) (by omega) (by omega) (by omega) (by omega)) (fun v _ _ => by rw [h.2.1 10 (by omega) (by omega) (by omega) (by omega)]) (wd_gF hQ h) hC
theorem cM_gF (hQ : Q = 13 ∨ Q = 49) {S S' : nk_S} (h : gF Q S S') (hC : cM S c) : cM S' c := cM_c (fun v _ _ => by rw [h.2.1 10 (by omega) (by omega) (by omega) (by omega), h.2.1 11 (by omega) (by omega) (by omega) (by omega)]; exact ⟨rfl, rfl⟩) (wd_gF hQ h) hC
theorem cVm_gF (hQ : Q = 13 ∨ Q = 49) {S S' : nk_S} (h : gF Q S S') {fl : List (List Int × Nat × Int)} {bl : List jB} (hV : cVm S tx Q c ns us fl bl) : cVm S' tx Q c ns us fl bl := by
  obtain ⟨v1, v2, v3, v4, v5, v6⟩ := hV
  have k := fun b x y z w => h.2.1 b x y z w
  refine ⟨CF_gF hQ h v1, cC_gF hQ h v2, cM_gF hQ h v3, ⟨by rw [k (Q + 1) (by omega) (by omega) (by omega) (by omega)]; exact v4.1, fun f x hx => ?_⟩, ⟨by rw [k (Q + 9) (by omega) (by omega) (by omega) (by omega)]; exact v5.1, fun b x hx => ?_⟩, by rw [h.1]; exact v6⟩
  · have := v4.2 f x hx
    rw [k (Q + 5) (by omega) (by omega) (by omega) (by omega), k (Q + 6) (by omega) (by omega) (by omega) (by omega), k (Q + 7) (by omega) (by omega) (by omega) (by omega)]
    simpa only [wd_gF hQ h] using this
  · have := v5.2 b x hx
    unfold cB1 at this ⊢
    rw [k (Q + 10) (by omega) (by omega) (by omega) (by omega), k (Q + 11) (by omega) (by omega) (by omega) (by omega), k (Q + 12) (by omega) (by omega) (by omega) (by omega), k (Q + 13) (by omega) (by omega) (by omega) (by omega), k (Q + 14) (by omega) (by omega) (by omega) (by omega), k (Q + 15) (by omega) (by omega) (by omega) (by omega), k (Q + 16) (by omega) (by omega) (by omega) (by omega), k (Q + 17) (by omega) (by omega) (by omega) (by omega)]
    simpa only [wd_gF hQ h] using this
theorem cLb_gF (hQ : Q = 13 ∨ Q = 49) {S S' : nk_S} (h : gF Q S S') {op : Nat} {ls : List (List Int × Nat × Nat)} (hL : cLb S c op ls) : cLb S' c op ls := by
  intro v hv hs
  rw [wd_gF hQ h] at hs ⊢
  rw [h.2.1 10 (by omega) (by omega) (by omega) (by omega), h.2.1 11 (by omega) (by omega) (by omega) (by omega)]
  exact hL v hv hs
theorem cJL_85 (hQ : Q = 13 ∨ Q = 49) {S S' : nk_S} (h : ∀ b, b ≠ 85 → S'.1 b = S.1 b) {z : jL} (hZ : cJL S Q z) : cJL S' Q z := by
  unfold cJL cCd cSl cKl cTh tC at hZ ⊢
  rw [h Q (by omega), h (Q + 25) (by omega), h (Q + 26) (by omega), h (Q + 27) (by omega), h (Q + 28) (by omega), h (Q + 29) (by omega), h (Q + 31) (by omega), h (Q + 32) (by omega), h (Q + 33) (by omega), h (Q + 34) (by omega), h (Q + 35) (by omega), h (Q + 23) (by omega), h (Q + 23 + 1) (by omega)]
  exact hZ
theorem c_second {S : nk_S} (hC : CF S tx c) {w : Nat} (hw : w < c) : ja_X10_secondOf 2 (w : Int) S = some (S.1 11 w, S) := by
  have h5 := hC.1
  have hc := hC.2.2.1
  unfold ja_X10_secondOf
  rw [if_neg (show ¬ (w : Int) < 0 by omega), h5, if_neg (by omega), if_pos (in_i (N := 12288) (by omega)), jc_2_14, Int.toNat_natCast]
theorem jc_Qb (hQ : Q = 13 ∨ Q = 49) : ja_c (Q + 9) 9 = Q + 17 ∧ ja_c (Q + 9) 10 = Q + 18 ∧ ja_c (Q + 9) 11 = Q + 19 ∧ ja_c (Q + 9) 12 = Q + 20 ∧ ja_c (Q + 9) 13 = Q + 21 ∧ ja_c (Q + 9) 14 = Q + 22 := by rcases hQ with rfl | rfl <;> exact ⟨rfl, rfl, rfl, rfl, rfl, rfl⟩
theorem jc_Qp (hQ : Q = 13 ∨ Q = 49) : ja_c Q 2 = Q + 23 ∧ ja_c Q 4 = Q + 25 ∧ ja_c Q 5 = Q + 26 ∧ ja_c Q 6 = Q + 27 ∧ ja_c Q 7 = Q + 28 ∧ ja_c Q 8 = Q + 29 ∧ ja_c Q 9 = Q + 30 ∧ ja_c Q 11 = Q + 31 ∧ ja_c Q 13 = Q + 32 ∧ ja_c Q 14 = Q + 33 ∧ ja_c Q 15 = Q + 34 ∧ ja_c Q 16 = Q + 35 := by rcases hQ with rfl | rfl <;> exact ⟨rfl, rfl, rfl, rfl, rfl, rfl, rfl, rfl, rfl, rfl, rfl, rfl⟩
/-- a label's instruction -/
theorem c_labA (hQ : Q = 13 ∨ Q = 49) {S : nk_S} (hC : CF S tx c) (h2 : S.2 85 1 = Q) {op b : Nat} {ls : List (List Int × Nat × Nat)} (hL : cLb S c op ls) (hb : b < 48) (ho : S.1 (Q + 17) b = (op : Int)) {t : Nat} (ht : fN tx t = true) : ja_X6_labelAt 85 (b : Int) (t : Int) S = some (lat ls (tx.getD t []), S) := by
  obtain ⟨w, w1, w2, w3⟩ := c_tok hC (fN_T ht)
  have ws : shp (wd S w) = 1 := by
    rw [w3]
    exact (shp_eq _).1.mpr (of_decide_eq_true ht)
  have hl := hL w w1 ws
  unfold ja_X6_labelAt lat
  rw [jc_85_0, c_at0 hC, bd_some, w2, c_first hC w1, bd_some, if_pos (in_i (N := 48) (by omega)), h2, (jc_Qf hQ).2.2.2.2, (jc_Qb hQ).1, Int.toNat_natCast, ho, ← w3]
  cases hf : lfd (wd S w) ls with
  | none =>
    rw [hf] at hl
    rw [if_pos (show S.1 10 w ≤ (op : Int) from hl)]
  | some q =>
    rw [hf] at hl
    obtain ⟨l1, l2, l3⟩ := hl
    rw [l1, if_neg (by omega), c_second hC w1, bd_some, l2]
theorem lat_rg (ls : List (List Int × Nat × Nat)) (n : List Int) : lat ls n = -1 ∨ 0 ≤ lat ls n := by
  unfold lat
  cases lfd n ls with
  | none => exact Or.inl rfl
  | some q => right; show (0 : Int) ≤ (q.2 : Int); omega
/-- one more catch -/
theorem c_addK (hQ : Q = 13 ∨ Q = 49) {S : nk_S} {kl : List (Nat × Nat × Nat × Nat × Nat)} (hK : cKl S Q kl) (h64 : kl.length < 64) (b x1 x2 x3 x4 : Nat) : ∃ S', ja_X3_addCatch Q (x1 : Int) (x2 : Int) (x3 : Int) (x4 : Int) S = some (0, S') ∧ S'.2 = S.2 ∧ (∀ b, b ≠ Q → ¬ (Q + 32 ≤ b ∧ b ≤ Q + 35) → S'.1 b = S.1 b) ∧ (∀ i, i ≠ 12 → S'.1 Q i = S.1 Q i) ∧ cKl S' Q (kl ++ [(b, x1, x2, x3, x4)]) := by
  have hin : (0 : Int) ≤ (kl.length : Int) ∧ (kl.length : Int) < 64 := in_i (N := 64) (by omega)
  obtain ⟨-, -, -, -, -, -, -, -, j13, j14, j15, j16⟩ := jc_Qp hQ
  obtain ⟨T, hT⟩ : ∃ T, T = nk_wi (nk_wi (nk_wi (nk_wi S (Q + 32) kl.length (x1 : Int)) (Q + 33) kl.length (x2 : Int)) (Q + 34) kl.length (x3 : Int)) (Q + 35) kl.length (x4 : Int) := ⟨_, rfl⟩
  have t12 : T.1 Q 12 = (kl.length : Int) := by rw [hT, wi_n (by omega), wi_n (by omega), wi_n (by omega), wi_n (by omega)]; exact hK.1
  obtain ⟨U, hU⟩ : ∃ U, U = nk_wi T Q 12 ((kl.length + 1 : Nat) : Int) := ⟨_, rfl⟩
  have e : ja_X3_addCatch Q (x1 : Int) (x2 : Int) (x3 : Int) (x4 : Int) S = some (0, U) := by
    unfold ja_X3_addCatch
    rw [hK.1, if_pos hin, lt_eq, j13, Int.toNat_natCast]
    rw [show (nk_wi S (Q + 32) kl.length (x1 : Int)).1 Q 12 = (kl.length : Int) by rw [wi_n (by omega)]; exact hK.1, if_pos hin, lt_eq, j14, Int.toNat_natCast]
    rw [show (nk_wi (nk_wi S (Q + 32) kl.length (x1 : Int)) (Q + 33) kl.length (x2 : Int)).1 Q 12 = (kl.length : Int) by rw [wi_n (by omega), wi_n (by omega)]; exact hK.1, if_pos hin, lt_eq, j15, Int.toNat_natCast]
    rw [show (nk_wi (nk_wi (nk_wi S (Q + 32) kl.length (x1 : Int)) (Q + 33) kl.length (x2 : Int)) (Q + 34) kl.length (x3 : Int)).1 Q 12 = (kl.length : Int) by rw [wi_n (by omega), wi_n (by omega), wi_n (by omega)]; exact hK.1, if_pos hin, lt_eq, j16, Int.toNat_natCast, ← hT, lt_eq, t12, w_nat1 (by omega), ← hU]
  have un : ∀ b, b ≠ Q → ¬ (Q + 32 ≤ b ∧ b ≤ Q + 35) → U.1 b = S.1 b := fun b y z => by rw [hU, wi_n y, hT, wi_n (by omega), wi_n (by omega), wi_n (by omega), wi_n (by omega)]
  have uQ : ∀ i, i ≠ 12 → U.1 Q i = S.1 Q i := fun i hi => by
    rw [hU]
    simp only [wi_v, hi, and_false, if_false]
    rw [hT, wi_n (by omega), wi_n (by omega), wi_n (by omega), wi_n (by omega)]
  refine ⟨U, e, by rw [hU, hT]; rfl, un, uQ, ⟨by rw [hU, List.length_append]; simp only [wi_v, and_self, if_true]; rfl, fun i x hx => ?_⟩⟩
  have r1 : ∀ i, U.1 (Q + 32) i = if i = kl.length then (x1 : Int) else S.1 (Q + 32) i := fun i => by
    rw [hU, wi_n (by omega), hT, wi_n (by omega), wi_n (by omega), wi_n (by omega)]; simp only [wi_v, true_and]
  have r2 : ∀ i, U.1 (Q + 33) i = if i = kl.length then (x2 : Int) else S.1 (Q + 33) i := fun i => by
    rw [hU, wi_n (by omega), hT, wi_n (by omega), wi_n (by omega), wi_at, wi_n (by omega)]
  have r3 : ∀ i, U.1 (Q + 34) i = if i = kl.length then (x3 : Int) else S.1 (Q + 34) i := fun i => by
    rw [hU, wi_n (by omega), hT, wi_n (by omega), wi_at, wi_n (by omega), wi_n (by omega)]
  have r4 : ∀ i, U.1 (Q + 35) i = if i = kl.length then (x4 : Int) else S.1 (Q + 35) i := fun i => by
    rw [hU, wi_n (by omega), hT, wi_at, wi_n (by omega), wi_n (by omega), wi_n (by omega)]
  rw [r1, r2, r3, r4]
  rcases fl_case hx with ⟨l1, e⟩ | ⟨l1, e⟩
  · rw [if_neg (by omega), if_neg (by omega), if_neg (by omega), if_neg (by omega)]
    exact hK.2 i x e
  · rw [if_pos l1, if_pos l1, if_pos l1, if_pos l1, e]
    exact ⟨rfl, rfl, rfl, rfl⟩
end CLN
