/-! Members: the class's heads and fields. -/
/-- what may change while members are read -/
def mF (Q : Nat) (S S' : nk_S) : Prop := S'.2 = S.2 ∧ (∀ b, b ≠ 85 → b ≠ Q + 1 → ¬ (Q + 5 ≤ b ∧ b ≤ Q + 7) → ¬ (Q + 9 ≤ b ∧ b ≤ Q + 17) → S'.1 b = S.1 b) ∧ (∀ i, i ≠ 2 → S'.1 85 i = S.1 85 i) ∧ (∀ i, i ≠ 4 → S'.1 (Q + 1) i = S.1 (Q + 1) i) ∧ ∀ i, i ≠ 0 → S'.1 (Q + 9) i = S.1 (Q + 9) i
theorem mF_trans {Q : Nat} {S1 S2 S3 : nk_S} (h : mF Q S1 S2) (k : mF Q S2 S3) : mF Q S1 S3 := ⟨k.1.trans h.1, fun b x y z w => (k.2.1 b x y z w).trans (h.2.1 b x y z w), fun i x => (k.2.2.1 i x).trans (h.2.2.1 i x), fun i x => (k.2.2.2.1 i x).trans (h.2.2.2.1 i x), fun i x => (k.2.2.2.2 i x).trans (h.2.2.2.2 i x)⟩
theorem mF_rfl {Q : Nat} {S : nk_S} : mF Q S S := ⟨rfl, fun _ _ _ _ _ => rfl, fun _ _ => rfl, fun _ _ => rfl, fun _ _ => rfl⟩
theorem mF_h {Q n : Nat} (hQ : Q = 13 ∨ Q = 49) {S S' : nk_S} (h : hF Q n S S') : mF Q S S' := ⟨h.1, fun b x _ _ w => h.2.1 b x (by omega), h.2.2.1, fun i _ => by rw [h.2.1 (Q + 1) (by omega) (by omega)], fun i _ => by rw [h.2.1 (Q + 9) (by omega) (by omega)]⟩
section CHG
variable {tx : List (List Int)} {Q c : Nat} {ns : List (List Int)} {us : List Int}
theorem wd_mF (hQ : Q = 13 ∨ Q = 49) {S S' : nk_S} (h : mF Q S S') (w : Nat) : wd S' w = wd S w := wd_congr (h.2.1 3 (by omega) (by omega) (by omega) (by omega)) (by rw [h.2.1 5 (by omega) (by omega) (by omega) (by omega)]) (by rw [h.2.1 6 (by omega) (by omega) (by omega) (by omega)])
theorem CF_mF (hQ : Q = 13 ∨ Q = 49) {S S' : nk_S} (h : mF Q S S') (hC : CF S tx c) : CF S' tx c := CF_c (h.2.1 2 (by omega) (by omega) (by omega) (by omega)) (h.2.1 3 (by omega) (by omega) (by omega) (by omega)) (h.2.1 4 (by omega) (by omega) (by omega) (by omega)) (h.2.1 5 (by omega) (by omega) (by omega) (by omega)) (h.2.1 6 (by omega) (by omega) (by omega) (by omega)) (h.2.1 9 (by omega) (by omega) (by omega) (by omega)) hC
theorem cC_mF (hQ : Q = 13 ∨ Q = 49) {S S' : nk_S} (h : mF Q S S') (hC : cC S Q c ns us) : cC S' Q c ns us := cC_c (h.2.2.2.1 0 (by decide)) (h.2.1 (Q + 2) (by omega) (by omega) (by omega) (by omega)) (h.2.1 (Q + 3) (by omega) (by omega) (by omega) (by omega)) (fun v _ _ => by rw [h.2.1 10 (by omega) (by omega) (by omega) (by omega)]) (wd_mF hQ h) hC
theorem cM_mF (hQ : Q = 13 ∨ Q = 49) {S S' : nk_S} (h : mF Q S S') (hC : cM S c) : cM S' c := cM_c (fun v _ _ => by rw [h.2.1 10 (by omega) (by omega) (by omega) (by omega), h.2.1 11 (by omega) (by omega) (by omega) (by omega)]; exact ⟨rfl, rfl⟩) (wd_mF hQ h) hC
/-- what is known of every body that was taken -/
def bTx (tx ns : List (List Int)) (bl : List jB) : Prop := ∀ x ∈ bl, x = nB tx ns x.ow x.tk ∧ bodyAt tx x.tk ∧ mis (pT tx ns 20000 (x.tk + 3)).1 (x.tk + 3) < 0 ∧ x.rs ≠ -2 ∧ (x.ps.length : Int) ≤ x.lc ∧ x.lc ≤ 12
theorem bTx_12 {bl : List jB} (h : bTx tx ns bl) {b : Nat} {x : jB} (hx : bl[b]? = some x) : x.ps.length ≤ 12 ∧ (x.me = true → 1 ≤ x.ps.length) := by
  obtain ⟨e, -, -, -, k1, k2⟩ := h x (List.mem_of_getElem? hx)
  refine ⟨by omega, fun hm => ?_⟩
  rw [e] at hm ⊢
  show 1 ≤ ((if fW tx 51 x.tk = true then [((4 + 2 * x.ow : Nat) : Int)] else []) ++ (pT tx ns 20000 (x.tk + 3)).1).length
  rw [if_pos (show fW tx 51 x.tk = true from hm), List.length_append, List.length_cons, List.length_nil]
  omega
/-- where the missing type of a head stands -/
def misH (tx ns : List (List Int)) (a : Nat) : Int := if 0 ≤ mis (pT tx ns 20000 (a + 3)).1 (a + 3) then mis (pT tx ns 20000 (a + 3)).1 (a + 3) else if tyC ns (tx.getD ((pT tx ns 20000 (a + 3)).2 + 1) []) = -2 then (((pT tx ns 20000 (a + 3)).2 + 1 : Nat) : Int) else -1
theorem c_num {S : nk_S} (hC : CF S tx c) (hM : cM S c) {p : Nat} (hp : fU tx p = true) (hl : p < tx.length) : ∃ v : Nat, v < c ∧ cw S tx p = (v : Int) ∧ ja_X10_firstOf 2 (cw S tx p) S = some (nval (tx.getD p []), S) := by
  obtain ⟨v, v1, v2, v3⟩ := c_tok hC hl
  refine ⟨v, v1, v2, ?_⟩
  rw [v2, c_first hC v1, (hM v v1).1 ?_, v3]
  rw [v3]
  exact (shp_eq _).2.2.1.mpr hp
/-- the head up to the looks at the body above -/
theorem c_hd1 (hQ : Q = 13 ∨ Q = 49) {S : nk_S} (hC : CF S tx c) (hK : cC S Q c ns us) (hM : cM S c) {n : Nat} (hn : S.1 (Q + 9) 0 = (n : Int)) (h48 : n < 48) (h2 : S.2 85 1 = Q) {j a : Nat} (hj : j < ns.length) (hb : bodyAt tx a) : ∃ S' w, w < c ∧ wd S w = tx.getD (a + 1) [] ∧ ja_X6_resolveHead 85 (a : Int) (j : Int) S = (nk_bd (ja_X0_nearest (Q + 9) (ja_c (S'.2 85 1) 0) (j : Int) ((w : Nat) : Int) S') fun r15 S16 => if r15 < 0 then ja_X6_resolveHead_b296 85 (Q + 9) (misH tx ns a) (nB tx ns j a).lc S16 else nk_bd (ja_X0_mayReplace (Q + 9) r15 S16) fun r18 S19 => if r18 = 0 then some ((nk_w ((a : Int) + 1)), S19) else ja_X6_resolveHead_b296 85 (Q + 9) (misH tx ns a) (nB tx ns j a).lc S19) ∧ hF Q n S S' ∧ cB1 S' Q c n (nB tx ns j a) ∧ S'.1 85 2 = (((pT tx ns 20000 (a + 3)).2 + 2 : Nat) : Int) := by
  obtain ⟨k1, k2, k3, k4, k5, k6, k7⟩ := hd_kind (ns := ns) hb
  obtain ⟨p1, p2, p3, p4, p5, p6, p7⟩ := pT_ok (ns := ns) 20000 (a + 3) k1
  have hT := hC.2.2.2.2.1
  have h32 := hK.2.2.1
  have l6 := fW_T k6
  obtain ⟨w, w1, w2, w3⟩ := c_tok hC (show a + 1 < tx.length by omega)
  obtain ⟨A, hA⟩ : ∃ A, A = nk_wi S 85 2 (a : Int) := ⟨_, rfl⟩
  have FA : hF Q n S A := by rw [hA]; exact hF_at hQ
  have CA := CF_F hQ FA hC
  have an : A.1 (Q + 9) 0 = (n : Int) := by rw [FA.2.1 (Q + 9) (by omega) (by omega)]; exact hn
  have cwe : ∀ T : nk_S, T.1 4 = S.1 4 → ∀ p, cw T tx p = cw S tx p := fun T hT p => by unfold cw; rw [hT]
  have a4 : A.1 4 = S.1 4 := FA.2.1 4 (by omega) (by omega)
  obtain ⟨B, b1, b2, b3, b4, b5, b6, b7⟩ := c_begin hQ an h48 j (by omega) (w : Int) (fW tx 51 a)
  obtain ⟨D, hD⟩ : ∃ D, D = nk_wi B 85 2 ((a + 3 : Nat) : Int) := ⟨_, rfl⟩
  have FD : hF Q n S D := by rw [hD]; exact hF_trans FA (hF_trans b2 (hF_at hQ))
  have e1 : ja_X6_resolveHead 85 (a : Int) (j : Int) S = ja_X6_resolveHead_L73 nk_big 85 (a : Int) (j : Int) (Q + 9) (w : Int) (-1) D := by
    unfold ja_X6_resolveHead
    rw [lt_eq, ← hA, h2, (jc_Qf hQ).2.2.2.2, an, if_pos (by omega), jc_85_0, w_nat1 (by omega), c_at0 CA (a + 1), bd_some, c_at0 CA a, bd_some, cwe A a4, cwe A a4, w2]
    have hb1 : ja_X6_resolveHead_b60 85 (a : Int) (j : Int) (Q + 9) (w : Int) (Q + 9) (j : Int) (w : Int) (bi (fW tx 51 a)) A = ja_X6_resolveHead_L73 nk_big 85 (a : Int) (j : Int) (Q + 9) (w : Int) (-1) D := by
      unfold ja_X6_resolveHead_b60
      rw [b1, bd_some, lt_eq, w_n3 (by omega), ← hD]
    cases h51 : fW tx 51 a with
    | true =>
      rw [h51] at hb1
      rw [if_pos (show cw _ _ _ = 51 from (cw_iff hC (w := 51) (by decide) a).mpr h51)]
      exact hb1
    | false =>
      rw [h51] at hb1
      rw [if_neg (fun e => ?_)]
      · exact hb1
      · have := (cw_iff hC (w := 51) (by decide) a).mp e
        rw [h51] at this
        cases this
  obtain ⟨m, hm⟩ := big_ge 40000 (by decide)
  have dP : hP D Q n (if fW tx 51 a = true then [((4 + 2 * j : Nat) : Int)] else []) := ⟨by rw [hD, wi_n (by omega)]; exact b7.1, fun k t x y => by rw [hD, wi_n (by omega)]; exact b7.2 k t x y⟩
  obtain ⟨E, x1, x2, x3, x4, x5⟩ := c_hdL hQ (j := j) (w := (w : Int)) (a := (a : Int)) h48 20000 (a + 3) nk_big _ (-1) D (CF_F hQ FD hC) (cC_F hQ FD hK) (cM_F hQ FD hM) (by rw [FD.2.1 (Q + 9) (by omega) (by omega)]; exact hn) dP (by rw [hD]; simp only [wi_v, and_self, if_true]) k1 (by split <;> simp only [List.length_cons, List.length_nil] <;> omega) (by omega) (Or.inl rfl)
  rw [if_neg (by decide)] at x1
  have FE : hF Q n S E := hF_trans FD x4
  obtain ⟨e, he⟩ : ∃ e, e = (pT tx ns 20000 (a + 3)).2 := ⟨_, rfl⟩
  rw [← he] at k4 k5 k6 p3 l6 x2
  obtain ⟨G, hG⟩ : ∃ G, G = nk_wi E 85 2 ((e + 1 : Nat) : Int) := ⟨_, rfl⟩
  have FG : hF Q n S G := by rw [hG]; exact hF_trans FE (hF_at hQ)
  have CG := CF_F hQ FG hC
  have g2 : G.1 85 2 = ((e + 1 : Nat) : Int) := by rw [hG]; simp only [wi_v, and_self, if_true]
  obtain ⟨H, hH⟩ : ∃ H, H = nk_wi G 85 2 ((e + 2 : Nat) : Int) := ⟨_, rfl⟩
  have FH : hF Q n S H := by rw [hH]; exact hF_trans FG (hF_at hQ)
  have CH := CF_F hQ FH hC
  have h2' : H.1 85 2 = ((e + 2 : Nat) : Int) := by rw [hH]; simp only [wi_v, and_self, if_true]
  obtain ⟨v, v1, v2, v3⟩ := c_num CH (cM_F hQ FH hM) k5 (by omega)
  obtain ⟨I, i1, i2, i3, i4, i5, i6⟩ := c_finish hQ (S := H) (n := n) (by rw [FH.2.1 (Q + 9) (by omega) (by omega)]; exact hn) h48 (tyC ns (tx.getD (e + 1) [])) (nval (tx.getD (e + 2) [])) ((e + 3 : Nat) : Int)
  have hI : ∀ b, b ≠ 85 → ¬ (Q + 15 ≤ b ∧ b ≤ Q + 17) → I.1 b = E.1 b := fun b y1 y2 => by rw [i3 b y2, hH, wi_n y1, hG, wi_n y1]
  refine ⟨I, w, w1, w3, ?_, hF_trans FH i2, ?_, ?_⟩
  · rw [e1, x1]
    unfold ja_X6_resolveHead_b165
    rw [lt_eq, x2, w_nat1 (by omega), ← hG, jc_85_0, g2, c_at0 CG, bd_some, c_ty CG (cC_F hQ FG hK) (cM_F hQ FG hM) (k4.elim Or.inr Or.inl), bd_some]
    have hb216 : ∀ s0 : Int, ja_X6_resolveHead_b216 85 (a : Int) (j : Int) (Q + 9) (w : Int) (tyC ns (tx.getD (e + 1) [])) s0 G = nk_bd (ja_X0_nearest (Q + 9) (ja_c (I.2 85 1) 0) (j : Int) ((w : Nat) : Int) I) fun r15 S16 => if r15 < 0 then ja_X6_resolveHead_b296 85 (Q + 9) s0 (nval (tx.getD (e + 2) [])) S16 else nk_bd (ja_X0_mayReplace (Q + 9) r15 S16) fun r18 S19 => if r18 = 0 then some ((nk_w ((a : Int) + 1)), S19) else ja_X6_resolveHead_b296 85 (Q + 9) s0 (nval (tx.getD (e + 2) [])) S19 := by
      intro s0
      unfold ja_X6_resolveHead_b216
      rw [lt_eq, g2, w_nat1 (by omega), show e + 1 + 1 = e + 2 by omega, ← hH, jc_85_0, h2', c_at0 CH, bd_some, v3, bd_some, h2', w_nat1 (by omega), show e + 2 + 1 = e + 3 by omega, i1, bd_some]
    have hlc : (nB tx ns j a).lc = nval (tx.getD (e + 2) []) := by rw [he]; rfl
    rw [hlc]
    unfold misH
    rw [← he]
    by_cases q : tyC ns (tx.getD (e + 1) []) = -2
    · rw [if_pos q, if_pos q]
      by_cases q2 : 0 ≤ mis (pT tx ns 20000 (a + 3)).1 (a + 3)
      · rw [if_pos q2, if_pos q2]
        exact hb216 _
      · rw [if_neg q2, if_neg q2, g2]
        exact hb216 _
    · rw [if_neg q, if_neg q]
      show ja_X6_resolveHead_b216 85 (a : Int) (j : Int) (Q + 9) (w : Int) (tyC ns (tx.getD (e + 1) [])) (mis (pT tx ns 20000 (a + 3)).1 (a + 3)) G = _
      rw [hb216]
      have : mis (pT tx ns 20000 (a + 3)).1 (a + 3) = if 0 ≤ mis (pT tx ns 20000 (a + 3)).1 (a + 3) then mis (pT tx ns 20000 (a + 3)).1 (a + 3) else -1 := by
        by_cases q2 : 0 ≤ mis (pT tx ns 20000 (a + 3)).1 (a + 3)
        · rw [if_pos q2]
        · rw [if_neg q2]
          have hm1 : ∀ (l : List Int) (p : Nat), mis l p = -1 ∨ 0 ≤ mis l p := by
            intro l
            induction l with
            | nil => intro p; exact Or.inl rfl
            | cons t l ih =>
              intro p
              rw [mis]
              split
              · right; omega
              · exact ih (p + 1)
          rcases hm1 (pT tx ns 20000 (a + 3)).1 (a + 3) with h | h
          · exact h
          · exact absurd h q2
      rw [← this]
  · refine ⟨?_, ⟨w, w1, ?_, ?_⟩, ?_, ?_, fun k t hk ht => ?_, ?_, ?_, ?_⟩
    · rw [hI _ (by omega) (by omega), x5 _ (by omega) (by omega) (by omega), hD, wi_n (by omega)]; exact b4
    · rw [hI _ (by omega) (by omega), x5 _ (by omega) (by omega) (by omega), hD, wi_n (by omega)]; exact b5
    · rw [wd_F hQ (hF_trans FH i2), w3]; rfl
    · rw [hI _ (by omega) (by omega), x5 _ (by omega) (by omega) (by omega), hD, wi_n (by omega)]; exact b6
    · rw [hI _ (by omega) (by omega)]; exact x3.1
    · rw [hI _ (by omega) (by omega)]; exact x3.2 k t hk ht
    · rw [i4, he]; rfl
    · rw [i5, he]; rfl
    · rw [i6, he]; rfl
  · rw [i3 85 (by omega), h2', he]
end CHG
