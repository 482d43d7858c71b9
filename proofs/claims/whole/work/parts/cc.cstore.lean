/-! The class's table of values. -/
def vN (o : Option jW) : Option jR := match o with
  | none => none
  | some w => some w.2.1
def vS (o : Option jW) : Nat → Bool := match o with
  | none => noS
  | some w => w.2.2.1
def cVl (t : Int) (v : Int) (o : Option jW) : Prop := if t = 1 then v = kPk (vN o) else cV v (vS o)
theorem cVl_n {v : Int} {o : Option jW} : cVl 1 v o ↔ v = kPk (vN o) := by unfold cVl; rw [if_pos rfl]
theorem cVl_r {t v : Int} {o : Option jW} (h : 2 ≤ t) : cVl t v o ↔ cV v (vS o) := by unfold cVl; rw [if_neg (by omega)]
/-- what has changed: fields, arrays, bodies -/
abbrev jH := (Nat → Bool) × (Nat → Bool) × (Nat → Bool)
def cGm (S : nk_S) (fl : List (List Int × Nat × Int)) (bl : List jB) (z : jL) (σ : jG) (C : jH) : Prop :=
  (∀ (s f : Nat) (y : List Int × Nat × Int), s < 48 → fl[f]? = some y → cVl y.2.2 (S.1 101 (s * 48 + f)) (σ.1 (s * 48 + f)))
  ∧ (∀ s, s < z.2.1.length → cVl (tEl (sTp z s)) (S.1 102 s) (σ.1 (2592 + s)))
  ∧ (∀ s, s < 48 → S.1 103 s = kPk (vN (σ.1 (2646 + s))))
  ∧ (∀ (b : Nat) (y : jB), bl[b]? = some y → cVl y.rs (S.1 104 b) (σ.1 (2700 + b)) ∧ S.1 105 b = bi (σ.2.1 b) ∧ cV (S.1 106 b) (σ.2.2 b))
  ∧ cV (S.1 100 6) C.1 ∧ cV (S.1 100 7) C.2.1 ∧ cV (S.1 100 8) C.2.2
/-- only the table changes -/
def sFr (S S' : nk_S) : Prop := S'.2 = S.2 ∧ (∀ a, a < 100 ∨ 107 ≤ a → S'.1 a = S.1 a)
theorem sFr_rfl {S : nk_S} : sFr S S := ⟨rfl, fun _ _ => rfl⟩
theorem sFr_trans {S1 S2 S3 : nk_S} (h : sFr S1 S2) (k : sFr S2 S3) : sFr S1 S3 := ⟨k.1.trans h.1, fun a x => (k.2 a x).trans (h.2 a x)⟩
theorem sFr_i {S : nk_S} {a k : Nat} {x : Int} (h : 100 ≤ a ∧ a < 107) : sFr S (nk_wi S a k x) := ⟨rfl, fun b hb => wi_n (by omega)⟩
section CST
variable {F : Int → Prop} {dn up : Int → Int} {us : List Int} {z : jL}
theorem kPk_no : kPk none = pk (2147483647, -2147483648) := by unfold kPk pk; decide
theorem no_iR : iR2 (2147483647, -2147483648) := by unfold iR2 iR; decide
theorem rJn_c (a c : jR) : rJn a c = rJn c a := by unfold rJn; rw [Int.min_comm, Int.max_comm]
theorem rJn_n {a : jR} (h : iR2 a) : rJn a (2147483647, -2147483648) = a := by
  unfold iR2 iR at h
  unfold rJn
  dsimp only
  rw [Int.min_eq_left (by omega), Int.max_eq_left (by omega)]
/-- a number of the table -/
theorem vl1_n {w : jW} (h : vl1 F us z 1 w) : w = wR w.2.1 ∧ rOk F w.2.1 := by
  obtain ⟨⟨h1, h2, -⟩, h4, h5, h6⟩ := h
  have k := h2.1 rfl
  obtain ⟨q1, q2⟩ := wOk_1 h1 k
  refine ⟨?_, q1⟩
  obtain ⟨w0, w1, w2, w3, w4⟩ := w
  dsimp only at *
  rw [k, q2, h4, h5]; rfl
theorem vl1_r {t : Int} (ht : 2 ≤ t) {w : jW} (h : vl1 F us z t w) : w = wS w.2.2.1 ∧ (∃ j, w.2.2.1 j = true) ∧ ∀ j, w.2.2.1 j = true → j < 54 ∨ j = 62 := by
  obtain ⟨⟨h1, h2, -⟩, h4, h5, h6⟩ := h
  have k := (h2.2 ht).1
  obtain ⟨q1, q2, q3⟩ := wOk_2 h1 k
  refine ⟨?_, q2, q3⟩
  obtain ⟨w0, w1, w2, w3, w4⟩ := w
  dsimp only at *
  rw [k, q1, h4, h5]; rfl
theorem wJn_R (a c : jR) : wJn (wR a) (wR c) = wR (rJn a c) := by
  unfold wJn wR
  dsimp only
  rw [if_pos ⟨rfl, by decide⟩, if_pos rfl]
  rfl
theorem wJn_S (a c : Nat → Bool) : wJn (wS a) (wS c) = wS (sOr a c) := by
  unfold wJn wS
  dsimp only
  rw [if_pos ⟨rfl, by decide⟩, if_pos rfl]
  rfl
/-- a value is joined -/
theorem c_vjoin (hT : thG F dn up) {t : Int} (ht : t = 1 ∨ 2 ≤ t) {o : Option jW} {w : jW} (ho : ∀ w', o = some w' → vl1 F us z t w') (hw : vl1 F us z t w) {v x : Int} (hv : cVl t v o) (hx : cVl t x (some w)) (S : nk_S) : ∃ r, ja_X8_join v x (bi (decide (t = 1))) S = some (r, S) ∧ cVl t r (oJ o (some w)) ∧ (r = v ↔ oJ o (some w) = o) := by
  unfold ja_X8_join
  rcases ht with ht | ht
  · subst ht
    rw [cVl_n] at hv hx
    rw [if_neg (show ¬ bi (decide ((1 : Int) = 1)) = 0 by decide)]
    obtain ⟨w1, w2⟩ := vl1_n hw
    have iw := rOk_iR hT w2
    have hx' : x = pk w.2.1 := hx
    cases o with
    | none =>
      have hv' : v = pk (2147483647, -2147483648) := by rw [hv]; exact kPk_no
      refine ⟨pk w.2.1, by rw [hv', hx', c_joinR no_iR iw, bd_some, rJn_n iw], cVl_n.mpr rfl, fun q => ?_, fun q => by cases q⟩
      rw [hv'] at q
      have := pk_inj iw.1 iw.2 no_iR.1 no_iR.2 q
      have h3 := w2.2.2
      rw [this] at h3
      exact absurd h3 (by decide)
    | some a =>
      obtain ⟨a1, a2⟩ := vl1_n (ho a rfl)
      have ia := rOk_iR hT a2
      have hv' : v = pk a.2.1 := hv
      have ej : oJ (some a) (some w) = some (wR (rJn a.2.1 w.2.1)) := by
        show some (wJn a w) = _
        rw [a1, w1, wJn_R]; rfl
      rw [ej]
      have ij : iR2 (rJn a.2.1 w.2.1) := by
        unfold iR2 iR at ia iw ⊢
        unfold rJn
        dsimp only
        omega
      refine ⟨pk (rJn a.2.1 w.2.1), by rw [hv', hx', c_joinR ia iw, bd_some, rJn_c], cVl_n.mpr rfl, fun q => ?_, fun q => ?_⟩
      · rw [hv'] at q
        have := pk_inj ij.1 ij.2 ia.1 ia.2 q
        rw [this, ← a1]
      · have q' : wR (rJn a.2.1 w.2.1) = a := Option.some.inj q
        have e : rJn a.2.1 w.2.1 = a.2.1 := congrArg (fun w : jW => w.2.1) q'
        rw [hv', e]
  · have hn : ¬ t = 1 := by omega
    rw [cVl_r ht] at hv hx
    rw [decide_eq_false hn, if_pos (show bi false = 0 from rfl)]
    obtain ⟨w1, w2, w3⟩ := vl1_r ht hw
    have hor := cV_or hv hx
    have hx' : cV x w.2.2.1 := hx
    cases o with
    | none =>
      have hv' : cV v noS := hv
      refine ⟨nk_lor v x, rfl, (cVl_r ht).mpr (cV_e hor (fun j _ => rfl)), fun q => ?_, fun q => by cases q⟩
      rw [q] at hor
      obtain ⟨j, hj⟩ := w2
      have hj64 : j < 64 := by have := w3 j hj; omega
      have e1 := hor.2 j hj64
      have e2 := hv'.2 j hj64
      rw [e2] at e1
      have e1 : false = (false || w.2.2.1 j) := e1
      rw [hj] at e1
      cases e1
    | some a =>
      obtain ⟨a1, a2, a3⟩ := vl1_r ht (ho a rfl)
      have hv' : cV v a.2.2.1 := hv
      have ej : oJ (some a) (some w) = some (wS (sOr a.2.2.1 w.2.2.1)) := by
        show some (wJn a w) = _
        rw [a1, w1, wJn_S]; rfl
      rw [ej]
      refine ⟨nk_lor v x, rfl, (cVl_r ht).mpr hor, fun q => ?_, fun q => ?_⟩
      · rw [q] at hor
        have : sOr a.2.2.1 w.2.2.1 = a.2.2.1 := by
          funext j
          by_cases c : j < 64
          · have e1 := hor.2 j c
            have e2 := hv'.2 j c
            rw [e2] at e1
            exact e1.symm
          · show (a.2.2.1 j || w.2.2.1 j) = a.2.2.1 j
            have : w.2.2.1 j = false := by
              cases q : w.2.2.1 j with
              | false => rfl
              | true => have := w3 j q; omega
            rw [this, Bool.or_false]
        rw [this, ← a1]
      · have q' : wS (sOr a.2.2.1 w.2.2.1) = a := Option.some.inj q
        have e : sOr a.2.2.1 w.2.2.1 = a.2.2.1 := congrArg (fun w : jW => w.2.2.1) q'
        have hor' : cV (nk_lor v x) (sOr a.2.2.1 w.2.2.1) := hor
        rw [e] at hor'
        exact cV_u hor' hv'
end CST
