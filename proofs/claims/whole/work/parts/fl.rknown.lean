/-! The reference proves a right program. -/
section PRK
variable {tx : List (List Int)} {p : jP}
/-- all that is known of a right program, for the reference -/
theorem p_rKx {P Q : Nat} (hP : P = 122 ∨ P = 168) (h : pWf tx p) (hk : kX (fun y => th7 y ∨ ∃ x ∈ p.2.2.2.2.1.2.2.2, nbr x y) (fun i => (lTh p.2.2.2.2.1.2.2.2).getD i 0) (lTh p.2.2.2.2.1.2.2.2).length (lDn (lTh p.2.2.2.2.1.2.2.2)) (lUp (lTh p.2.2.2.2.1.2.2.2)) p.1 p.2.1 p.2.2.1 p.2.2.2.1 p.2.2.2.2.1 p.2.2.2.2.2 (pH p) (pLc p) (pTy p) Q) : rKx (fun y => th7 y ∨ ∃ x ∈ p.2.2.2.2.1.2.2.2, nbr x y) (fun i => (lTh p.2.2.2.2.1.2.2.2).getD i 0) (lTh p.2.2.2.2.1.2.2.2).length (lDn (lTh p.2.2.2.2.1.2.2.2)) (lUp (lTh p.2.2.2.2.1.2.2.2)) p.1 p.2.1 p.2.2.1 p.2.2.2.1 p.2.2.2.2.1 p.2.2.2.2.2 (pH p) (pLc p) (pTy p) P := by
  obtain ⟨k1, k2, k3, k4, k5, k6, k7, k8, k9, k10, k11, k12, k13⟩ := id h.1
  exact ⟨hP, hk.2.1, hk.2.2.1, hk.2.2.2.1, hk.2.2.2.2, fun i => ⟨pLc_12 h i, pH_8 i⟩, fun b y hy => (bTx_12 k8 hy).1, k7.1, k6.1⟩
/-- the heights, as the reference has them -/
theorem p_rPv {P Q : Nat} (hQ : Q = 13 ∨ Q = 49) (h : pWf tx p) (hn : fWs p p.2.2.2.1.length 0 = none) {S : nk_S} (hp : cPg S Q p) (h0 : S.2 86 0 = Q) (h1 : S.2 86 1 = Q + 1) (hh : cHt S Q p p.2.2.2.1.length) {T : nk_S} (hr : rPg T P p) (hrh : rHt T P p p.2.2.2.1.length) : rPv T P p (pH p) (pTy p) := by
  refine ⟨hr, fun i t ht => ?_⟩
  cases hx : p.2.2.2.2.1.1[i]? with
  | none => unfold pTy at ht; rw [hx] at ht; cases ht
  | some x =>
    obtain ⟨a1, e, a2, a3, a4⟩ := h.2.2.1.1 i x hx
    obtain ⟨xb, hxb⟩ : ∃ xb, p.2.2.2.1[x.2.2.2.1]? = some xb := ⟨_, List.getElem?_eq_getElem a1⟩
    obtain ⟨t1, t2, t3, t4⟩ := p_types hQ h hn hp h0 h1 hh hxb a2
    rw [pTy_at hx rfl hxb a2] at ht
    have hm := (t2.1 i t ht).2.2.1
    rw [hrh _ e a1 a2 i a3 a4, pH_at hx rfl a2]
    unfold hgR
    rw [if_neg hm]
/-- the reference proves a right program: it ends in the least solution -/
theorem p_rprove {P Q : Nat} (hP : P = 122 ∨ P = 168) (h : pWf tx p) (hk : kX (fun y => th7 y ∨ ∃ x ∈ p.2.2.2.2.1.2.2.2, nbr x y) (fun i => (lTh p.2.2.2.2.1.2.2.2).getD i 0) (lTh p.2.2.2.2.1.2.2.2).length (lDn (lTh p.2.2.2.2.1.2.2.2)) (lUp (lTh p.2.2.2.2.1.2.2.2)) p.1 p.2.1 p.2.2.1 p.2.2.2.1 p.2.2.2.2.1 p.2.2.2.2.2 (pH p) (pLc p) (pTy p) Q) {S : nk_S} (hv : rPv S P p (pH p) (pTy p)) {mb : Nat} {em : Nat × Nat × Nat × Nat} (hm : mnL p.1 p.2.2.2.1 0 = (mb : Int)) (hme : p.2.2.2.2.2[mb]? = some em) : ∃ S' A σ, ja_X13_prove 121 P S = some (0, S') ∧ rdF P S S' ∧ rPv S' P p (pH p) (pTy p) ∧ rpE (fun y => th7 y ∨ ∃ x ∈ p.2.2.2.2.1.2.2.2, nbr x y) (lDn (lTh p.2.2.2.2.1.2.2.2)) (lUp (lTh p.2.2.2.2.1.2.2.2)) p.1 p.2.1 p.2.2.1 p.2.2.2.1 p.2.2.2.2.1 p.2.2.2.2.2 (pH p) (pLc p) (pTy p) em.1 P S' A σ := by
  obtain ⟨hok, hw, hA, hft⟩ := id h
  obtain ⟨k1, k2, k3, k4, k5, k6, k7, k8, k9, k10, k11, k12, k13⟩ := id hok
  obtain ⟨mb', ym, m1, m2, m3, m4⟩ := mnL_at p.2.2.2.1 0 k13
  rw [Nat.zero_add] at m1
  have em' : mb' = mb := by
    have : (mb' : Int) = (mb : Int) := by rw [← m1, hm]
    omega
  subst em'
  refine r_prove (p_rKx hP h hk) (fun f y hy => ⟨k10 y (List.mem_of_getElem? hy), by have := k6.2 f y hy; omega⟩) (fun b y hy k hk' => ?_) (fun k y hy => ?_) hv (mb := mb') (ym := ym) (by rw [hv.1.2.2.2.2.2.1]; exact hm) m2 m3 hme
  · have ht := (b_ty k8 k2 k7 y (List.mem_of_getElem? hy)).1 (y.ps.getD k 0) (by
      rw [List.getD_eq_getElem?_getD, List.getElem?_eq_getElem hk', Option.getD_some]
      exact List.getElem_mem hk')
    have := (tOk_V (us := p.2.1) ht k2).2
    omega
  · have hb := hA.2 k y hy
    obtain ⟨xb, e, q1, q2⟩ := p_el h hb
    have := ((hw _ xb e q1 q2).2.2.2.2.2.2.2 k y hy rfl).2.2.2.2.2.2.1
    omega
end PRK
