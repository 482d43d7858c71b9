/-! The class looks who uses what has changed. -/
/-- does an instruction use what has changed -/
def uCh (bl : List jB) (C : jH) (x : jC) (h : Nat) (u : jQ) (su : Nat → Bool) : Bool := if x.1 = 35 then C.1 x.2.1.toNat else if x.1 = 32 ∨ x.1 = 33 ∨ x.1 = 34 then sEx (sAnd C.2.1 (u (12 + h - tkX bl x)).2.2.1) else if x.1 = 39 ∨ x.1 = 40 then sEx (sAnd C.2.2 su) else false
section CUS
variable {F : Int → Prop} {S : nk_S} {Q : Nat} {p : jP} {H lc : Nat → Nat} {us : List Int} {fl : List (List Int × Nat × Int)} {bl : List jB} {z : jL} {t : Nat → Int} {u : jQ} {i : Nat} {x : jC} {G : jZ} {σ : jG} {C : jH} {l h : Nat} {A : jA}
theorem c_ctr : ∀ o : Nat, 20 ≤ o → o ≤ 25 → ∀ S, ja_X4_contrary (o : Int) S = some ((ctr o : Int), S) := by
  intro o h1 h2 S
  have h : o = 20 ∨ o = 21 ∨ o = 22 ∨ o = 23 ∨ o = 24 ∨ o = 25 := by omega
  rcases h with q | q | q | q | q | q <;> (subst q; rfl)
theorem bi_ne0 {b : Bool} (S : nk_S) {P : Prop} [Decidable P] (h : P ↔ b = false) : (if P then some ((0 : Int), S) else some (1, S)) = some (bi b, S) := by
  cases b with
  | false => rw [if_pos (h.mpr rfl)]; rfl
  | true => rw [if_neg (fun q => by cases h.mp q)]; rfl
theorem c_uses (hQ : Q = 13 ∨ Q = 49) (hv : cPv S Q p H lc) (hz : oJL p.2.2.2.2.1) (hx : p.2.2.2.2.1.1[i]? = some x) (hm : cGm S fl bl z σ C) (hA : cAm H lc S A) (hu : A i = some u) (hw : ∀ k, wOk F (u k)) (h35 : x.1 = 35 → 0 ≤ x.2.1 ∧ x.2.1.toNat < 48) (htk : x.1 = 32 ∨ x.1 = 33 ∨ x.1 = 34 → (u (12 + H i - tkX bl x)).1 = 2 ∧ 1 ≤ tkX bl x ∧ tkX bl x ≤ H i ∧ ja_X3_takes Q (i : Int) S = some ((tkX bl x : Int), S)) {su : Nat → Bool} (hsu : x.1 = 39 ∨ x.1 = 40 → cV (S.1 109 i) su ∧ ∀ j, su j = true → j < 48) : ja_X4_usesChanged 92 (i : Int) S = some (bi (uCh bl C x (H i) u su), S) := by
  have hi : i < 1024 := by
    have := (List.getElem?_eq_some_iff.mp hx).1
    have := hz.1
    omega
  have hH8 := (hv.2.2.2.2 i).2
  have hcd := hv.2.2.1.2.2.2.2.2.2.2.2.1.1.2 i x hx
  obtain ⟨-, -, -, -, m5, m6, m7⟩ := id hm
  unfold ja_X4_usesChanged
  rw [if_pos (in_i (N := 1024) (by omega)), hv.1, (jc_Qp hQ).2.1, (jc_Qp hQ).2.2.1, Int.toNat_natCast, hcd.1, hcd.2.1, lt_eq, jc_92_3]
  have hb90 : x.1 = 32 ∨ x.1 = 33 ∨ x.1 = 34 → ja_X4_usesChanged_b90 92 (i : Int) S = some (bi (uCh bl C x (H i) u su), S) := by
    intro hq
    obtain ⟨k1, k2, k3, k4⟩ := htk hq
    have hlt : 12 + H i - tkX bl x < 20 := by omega
    have hin : ((i * 20 + (12 + H i - tkX bl x) : Nat) : Int) < 20480 := by omega
    have hbg : i * 20 + (12 + H i - tkX bl x) < 2147483648 := by omega
    have hi' : (i : Int) < 1024 := by omega
    have st := (hA.2 i u hu (12 + H i - tkX bl x) (by unfold rel; omega)).2.2.2 k1
    have e1 : nk_w (nk_w (12 + (H i : Int)) - (tkX bl x : Int)) = ((12 + H i - tkX bl x : Nat) : Int) := by
      rw [wi12 (by omega), wisub (by omega) (by omega)]
    have e2 : nk_w (nk_w ((i : Int) * 20) + ((12 + H i - tkX bl x : Nat) : Int)) = ((i * 20 + (12 + H i - tkX bl x) : Nat) : Int) := by
      rw [wi20 hi, wiadd hbg]
    unfold ja_X4_usesChanged_b90
    rw [if_pos (in_i (N := 1024) hi'), hv.1, k4, bd_some, (jc_Qp hQ).2.2.2.2.2.2.1, Int.toNat_natCast, (hv.2.2.2.1 i x hx).1, e1]
    clear e1
    rw [lt_eq, e2]
    clear e2
    rw [if_pos (in_i (N := 20480) hin), jc_92_3, jc_92_2, jc_93_0, Int.toNat_natCast]
    have e : uCh bl C x (H i) u su = sEx (sAnd C.2.1 (u (12 + H i - tkX bl x)).2.2.1) := by
      unfold uCh
      rw [if_neg (by omega), if_pos hq]
    rw [e]
    refine bi_ne0 S (cV_ex (cV_and m6 st) (fun j hj => ?_))
    have hj : (C.2.1 j && (u (12 + H i - tkX bl x)).2.2.1 j) = true := hj
    rw [Bool.and_eq_true] at hj
    exact w_63 (hw _) k1 j hj.2
  have hb145 : x.1 = 39 ∨ x.1 = 40 → ja_X4_usesChanged_b145 92 (i : Int) S = some (bi (uCh bl C x (H i) u su), S) := by
    intro hq
    obtain ⟨k1, k2⟩ := hsu hq
    unfold ja_X4_usesChanged_b145
    rw [if_pos (in_i (N := 1024) (by omega)), jc_92_3, jc_92_6, Int.toNat_natCast]
    have e : uCh bl C x (H i) u su = sEx (sAnd C.2.2 su) := by
      unfold uCh
      rw [if_neg (by omega), if_neg (by omega), if_pos hq]
    rw [e]
    refine bi_ne0 S (cV_ex (cV_and m7 k1) (fun j hj => ?_))
    have hj : (C.2.2 j && su j) = true := hj
    rw [Bool.and_eq_true] at hj
    have := k2 j hj.2
    omega
  by_cases c32 : x.1 = 32
  · rw [if_pos (by omega)]; exact hb90 (by omega)
  rw [if_neg (show ¬ (x.1 : Int) = 32 by omega)]
  by_cases c33 : x.1 = 33
  · rw [if_pos (by omega)]; exact hb90 (by omega)
  rw [if_neg (show ¬ (x.1 : Int) = 33 by omega)]
  by_cases c34 : x.1 = 34
  · rw [if_pos (by omega)]; exact hb90 (by omega)
  rw [if_neg (show ¬ (x.1 : Int) = 34 by omega)]
  by_cases c35 : x.1 = 35
  · rw [if_pos (by omega)]
    obtain ⟨f1, f2⟩ := h35 c35
    have ef : x.2.1 = ((x.2.1.toNat : Nat) : Int) := by omega
    have e : uCh bl C x (H i) u su = C.1 x.2.1.toNat := by unfold uCh; rw [if_pos c35]
    rw [e]
    have hb := c_bitAt m5 (show x.2.1.toNat < 64 by omega)
    rw [← ef] at hb
    exact bi_ne0 S hb
  have en : ¬ (x.1 = 39 ∨ x.1 = 40) → uCh bl C x (H i) u su = false := fun q => by
    unfold uCh
    rw [if_neg c35, if_neg (by omega), if_neg q]
  rw [if_neg (show ¬ (x.1 : Int) = 35 by omega)]
  by_cases c36 : x.1 = 36
  · rw [if_pos (by omega), en (by omega)]; rfl
  rw [if_neg (show ¬ (x.1 : Int) = 36 by omega)]
  by_cases c37 : x.1 = 37
  · rw [if_pos (by omega), en (by omega)]; rfl
  rw [if_neg (show ¬ (x.1 : Int) = 37 by omega)]
  by_cases c38 : x.1 = 38
  · rw [if_pos (by omega), en (by omega)]; rfl
  rw [if_neg (show ¬ (x.1 : Int) = 38 by omega)]
  by_cases c39 : x.1 = 39
  · rw [if_pos (by omega)]; exact hb145 (by omega)
  rw [if_neg (show ¬ (x.1 : Int) = 39 by omega)]
  by_cases c40 : x.1 = 40
  · rw [if_pos (by omega)]; exact hb145 (by omega)
  rw [if_neg (show ¬ (x.1 : Int) = 40 by omega), en (by omega)]
  rfl
end CUS
