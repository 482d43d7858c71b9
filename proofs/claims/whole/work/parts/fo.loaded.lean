/-! What both sides hold of a loaded program. -/
/-- the thresholds of a program -/
abbrev pFF (p : jP) : Int → Prop := fun y => th7 y ∨ ∃ x ∈ p.2.2.2.2.1.2.2.2, nbr x y
noncomputable abbrev pZZ (p : jP) : jZ := (lDn (lTh p.2.2.2.2.1.2.2.2), lUp (lTh p.2.2.2.2.1.2.2.2), (p.1, p.2.1, p.2.2.1, p.2.2.2.1, p.2.2.2.2.1, p.2.2.2.2.2), pH p)
/-- all that is known of a right program -/
abbrev pKX (p : jP) (Q : Nat) : Prop := kX (fun y => th7 y ∨ ∃ x ∈ p.2.2.2.2.1.2.2.2, nbr x y) (fun i => (lTh p.2.2.2.2.1.2.2.2).getD i 0) (lTh p.2.2.2.2.1.2.2.2).length (lDn (lTh p.2.2.2.2.1.2.2.2)) (lUp (lTh p.2.2.2.2.1.2.2.2)) p.1 p.2.1 p.2.2.1 p.2.2.2.1 p.2.2.2.2.1 p.2.2.2.2.2 (pH p) (pLc p) (pTy p) Q
/-- a right program and its least solution -/
def ldK (p : jP) (A : jA) (σ : jG) (mb m0 : Nat) : Prop := (∃ tx, pWf tx p) ∧ fSt p.2.2.1 ∧ pKX p 13 ∧ (∃ (ym : jB) (em : Nat × Nat × Nat × Nat), mnL p.1 p.2.2.2.1 0 = (mb : Int) ∧ p.2.2.2.1[mb]? = some ym ∧ ym.ps = [] ∧ ym.rs = -1 ∧ p.2.2.2.2.2[mb]? = some em ∧ m0 = em.1) ∧ pIn (pFF p) (pZZ p) (pLc p) (pTy p) m0 A σ ∧ ∀ i, pCl (pZZ p) (pLc p) A σ i
/-- the class's side -/
def ldC (S : nk_S) (Q : Nat) (p : jP) (A : jA) (σ : jG) : Prop := cPh S Q p ∧ (∀ (i : Nat) (x : jC), p.2.2.2.2.1.1[i]? = some x → S.1 (Q + 30) i = (pH p i : Int) ∧ S.1 (Q + 16) x.2.2.2.1 = (pLc p i : Int)) ∧ cAm (pH p) (pLc p) S A ∧ cGm S p.2.2.1 p.2.2.2.1 p.2.2.2.2.1 σ (noS, noS, noS) ∧ (∀ i x, p.2.2.2.2.1.1[i]? = some x → (A i = none → S.1 107 i = 0 ∧ S.1 108 i = 0) ∧ ∀ u, A i = some u → cI (S.1 107 i) (fun e => pFd (pZZ p) σ x (pH p i) u e || (decide (e = 9) && !pMv (pZZ p) σ x (pH p i) u)) ∧ cV (S.1 108 i) (pEs (pZZ p) σ i x (pH p i) u)) ∧ (∀ k, k < p.2.1.length → S.1 (Q + 4) k = (nOf p.2.1 p.2.2.1 k : Int)) ∧ ∀ (g : Nat) (x : List Int × Nat × Int), p.2.2.1[g]? = some x → S.1 (Q + 8) g = ((nUp p.2.1 p.2.2.1 x.2.1 + cntF (p.2.2.1.take g) x.2.1 : Nat) : Int)
/-- the reference's program, its tokens aside -/
def rPh (S : nk_S) (P : Nat) (p : jP) : Prop := ∃ T : nk_S, (∀ a, a ≠ 224 → T.1 a = S.1 a) ∧ rPg T P p
/-- the reference's side -/
def ldR (S : nk_S) (P : Nat) (p : jP) (A : jA) (σ : jG) : Prop := rPh S P p ∧ (∀ i t, pTy p i = some t → S.1 (P + 19) i = (pH p i : Int)) ∧ rAm (pH p) S P A ∧ rGm S P σ ∧ ∀ i x, p.2.2.2.2.1.1[i]? = some x → (A i = none → S.1 (P + 37) i = 0 ∧ S.1 (P + 38) i = 0) ∧ ∀ u, A i = some u → cI (S.1 (P + 37) i) (fun e => pFd (pZZ p) σ x (pH p i) u e || (decide (e = 9) && !pMv (pZZ p) σ x (pH p i) u)) ∧ cV (S.1 (P + 38) i) (pEs (pZZ p) σ i x (pH p i) u)
/-- a program is loaded -/
def ldd (S : nk_S) (Q P : Nat) : Prop := ∃ p A σ mb m0, ldK p A σ mb m0 ∧ ldC S Q p A σ ∧ ldR S P p A σ
/-- all that is known between two calls -/
def jRest (S : nk_S) : Prop := jv_words S ∧ ((S.2 0 4 = 13 ∧ S.2 0 5 = 49) ∨ (S.2 0 4 = 49 ∧ S.2 0 5 = 13)) ∧ ((S.2 121 0 = 122 ∧ S.2 121 1 = 168) ∨ (S.2 121 0 = 168 ∧ S.2 121 1 = 122)) ∧ (S.1 100 6 = 0 ∧ S.1 100 7 = 0 ∧ S.1 100 8 = 0 ∧ iR (S.1 113 19) ∧ ∀ k, k < 256 → iR (S.1 112 k)) ∧ ((S.1 0 6 = 0 ∧ S.1 121 2 = 0) ∨ (S.1 0 6 = 1 ∧ S.1 121 2 = 1 ∧ ldd S (S.2 0 4) (S.2 121 0)))
section LDD
variable {S S' : nk_S} {Q P : Nat} {p : jP} {A : jA} {σ : jG}
theorem ldC_c (hQ : Q = 13 ∨ Q = 49) (k : ∀ a, (Q ≤ a ∧ a < Q + 36) ∨ (93 ≤ a ∧ a ≤ 111) → S'.1 a = S.1 a) (h : ldC S Q p A σ) : ldC S' Q p A σ := by
  obtain ⟨h1, h2, h3, h4, h5, h6, h7⟩ := h
  refine ⟨cPh_c (fun a x y _ _ _ => k a (by omega)) h1, fun i x hx => ?_, cAm_1 (fun a x y => k a (by omega)) h3, cGm_1 (fun a x y => k a (by omega)) h4, fun i x hx => ?_, fun j hj => ?_, fun g x hx => ?_⟩
  · rw [k (Q + 30) (by omega), k (Q + 16) (by omega)]; exact h2 i x hx
  · rw [k 107 (by omega), k 108 (by omega)]; exact h5 i x hx
  · rw [k (Q + 4) (by omega)]; exact h6 j hj
  · rw [k (Q + 8) (by omega)]; exact h7 g x hx
theorem rPh_c (hP : P = 122 ∨ P = 168) (k : ∀ a, P ≤ a → a < P + 46 → S'.1 a = S.1 a) (h : rPh S P p) : rPh S' P p := by
  obtain ⟨T, t1, t2⟩ := h
  refine ⟨(fun a => if a = 224 then T.1 224 else S'.1 a, T.2), fun a ha => if_neg ha, rPg_d (S := T) (fun a x y => ?_) (show (if (224 : Nat) = 224 then T.1 224 else S'.1 224) = T.1 224 from if_pos rfl) t2⟩
  show (if a = 224 then T.1 224 else S'.1 a) = T.1 a
  rw [if_neg (by omega), k a (by omega) (by omega), t1 a (by omega)]
theorem ldR_c (hP : P = 122 ∨ P = 168) (k : ∀ a, P ≤ a → a < P + 46 → S'.1 a = S.1 a) (h : ldR S P p A σ) : ldR S' P p A σ := by
  obtain ⟨h1, h2, h3, h4, h5⟩ := h
  refine ⟨rPh_c hP k h1, fun i t ht => ?_, rAm_c (fun a x y => k a (by omega) (by omega)) h3, rGm_c (fun a x y => k a (by omega) (by omega)) h4, fun i x hx => ?_⟩
  · rw [k (P + 19) (by omega) (by omega)]; exact h2 i t ht
  · rw [k (P + 37) (by omega) (by omega), k (P + 38) (by omega) (by omega)]; exact h5 i x hx
theorem ldd_c (hQ : Q = 13 ∨ Q = 49) (hP : P = 122 ∨ P = 168) (k : ∀ a, (Q ≤ a ∧ a < Q + 36) ∨ (93 ≤ a ∧ a ≤ 111) → S'.1 a = S.1 a) (k2 : ∀ a, P ≤ a → a < P + 46 → S'.1 a = S.1 a) (h : ldd S Q P) : ldd S' Q P := by
  obtain ⟨p, A, σ, mb, m0, h1, h2, h3⟩ := h
  exact ⟨p, A, σ, mb, m0, h1, ldC_c hQ k h2, ldR_c hP k2 h3⟩
theorem jR_w : jRest S → jv_words S := fun h => h.1
theorem jR_q (h : jRest S) : (S.2 0 5 = 13 ∨ S.2 0 5 = 49) ∧ (S.2 121 1 = 122 ∨ S.2 121 1 = 168) := by
  obtain ⟨-, h2, h3, -⟩ := h
  omega
/-- feed, end, input keep it -/
theorem jR_g (g : io_g S S') (g112 : ∀ k, k < 256 → S'.1 112 k = S.1 112 k ∨ iR (S'.1 112 k)) (h : jRest S) : jRest S' := by
  obtain ⟨h1, h2, h3, h4, h5⟩ := h
  obtain ⟨g1, g2, g3, g4, g5, g6⟩ := g
  have k : ∀ a, (4 ≤ a ∧ a ≤ 111) ∨ (122 ≤ a ∧ a ≤ 213) ∨ a = 113 → S'.1 a = S.1 a := fun a ha => g2 a (by omega) (by omega) (by omega) (by omega) (by omega) (by omega) (by omega) (by omega) (by omega)
  unfold jRest
  rw [g1, k 100 (by omega), k 113 (by omega), g3, g4]
  refine ⟨jv_words_congr g6 (g5 1 (by decide)) (g5 10 (by decide)) (fun w _ => by rw [k 5 (by omega), k 6 (by omega), k 7 (by omega)]; exact ⟨rfl, rfl, rfl⟩) (k 12 (by omega)) (fun w _ => by rw [k 9 (by omega)]) h1, h2, h3, ⟨h4.1, h4.2.1, h4.2.2.1, h4.2.2.2.1, fun k hk => (g112 k hk).elim (fun q => by rw [q]; exact h4.2.2.2.2 k hk) (fun q => q)⟩, ?_⟩
  rcases h5 with q | ⟨q1, q2, q3⟩
  · exact Or.inl q
  · exact Or.inr ⟨q1, q2, ldd_c (by omega) (by omega) (fun a ha => k a (by omega)) (fun a ha hb => k a (by omega)) q3⟩
/-- loads that fail keep it -/
theorem jR_k (h : jRest S) (g : ld_k S S') : jRest S' := by
  obtain ⟨h1, h2, h3, h4, h5⟩ := h
  obtain ⟨g1, g2, g3, g4, g5, g6, g7⟩ := g
  have e1 : S'.2 0 4 = S.2 0 4 ∧ S'.2 0 5 = S.2 0 5 ∧ S'.2 121 0 = S.2 121 0 ∧ S'.2 121 1 = S.2 121 1 := ⟨g1 0 4 (by decide) (by decide), g1 0 5 (by decide) (by decide), g1 121 0 (by decide) (by decide), g1 121 1 (by decide) (by decide)⟩
  have k : ∀ a, a ≠ 0 → ¬ (2 ≤ a ∧ a ≤ 11) → ¬ (85 ≤ a ∧ a ≤ 91) → a ≠ 121 → ¬ (216 ≤ a ∧ a ≤ 247) → ¬ (S.2 0 5 ≤ a ∧ a < S.2 0 5 + 36) → ¬ (S.2 121 1 ≤ a ∧ a < S.2 121 1 + 46) → S'.1 a = S.1 a := fun a x1 x2 x3 x4 x5 x6 x7 => g2 a x1 (by omega) x3 x4 x5 x6 x7
  unfold jRest
  rw [e1.1, e1.2.1, e1.2.2.1, e1.2.2.2, k 100 (by omega) (by omega) (by omega) (by omega) (by omega) (by omega) (by omega), k 113 (by omega) (by omega) (by omega) (by omega) (by omega) (by omega) (by omega), k 112 (by omega) (by omega) (by omega) (by omega) (by omega) (by omega) (by omega), g3 6 (by decide), g4 2 (by decide) (by decide) (by decide) (by decide) (by decide) (by decide)]
  refine ⟨g5, h2, h3, h4, ?_⟩
  rcases h5 with q | ⟨q1, q2, q3⟩
  · exact Or.inl q
  · refine Or.inr ⟨q1, q2, ldd_c (by omega) (by omega) (fun a ha => k a (by omega) (by omega) (by omega) (by omega) (by omega) (by omega) (by omega)) (fun a ha hb => k a (by omega) (by omega) (by omega) (by omega) (by omega) (by omega) (by omega)) q3⟩
end LDD
