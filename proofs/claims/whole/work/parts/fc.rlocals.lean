/-! Locals that a body does not have stay unset. -/
section RLC
variable {G : jZ} {σ : jG} {x : jC} {h l : Nat} {u v : jQ} {dn up : Int → Int}
theorem up12 {a k : Nat} {w : jW} (ha : 12 ≤ a) (hk : k < 12) : qUp u a w k = u k := qUp_ne (by omega)
theorem qKp_lc {s : Nat} {K : Nat → Bool} (hc : qCp l u) (hv : qKp u s K = some v) {k : Nat} (hk : l ≤ k) : v k = u k := by
  unfold qKp at hv
  cases hq : (u s).2.2.2.1 with
  | none => rw [hq] at hv; cases hv; rfl
  | some c =>
    rw [hq] at hv
    have := (hc s c hq).1
    dsimp only at hv
    split at hv
    · cases hv; exact qUp_ne (by omega)
    · cases hv
theorem qNr_lc {s : Nat} {r : jR} {f : Nat → Bool} (hc : qCp l u) (hv : qNr u s r f = some v) {k : Nat} (hk : l ≤ k) : v k = u k := by
  unfold qNr at hv
  cases hq : (u s).2.2.2.1 with
  | none => rw [hq] at hv; cases hv; rfl
  | some c =>
    rw [hq] at hv
    have := (hc s c hq).1
    dsimp only at hv
    split at hv
    · cases hv
    · cases hv; exact qUp_ne (by omega)
theorem pDr_lc {r : Nat} (hc : qCp l u) (hv : pDr u r = some v) {k : Nat} (hk : l ≤ k) : v k = u k := by
  unfold pDr at hv
  split at hv
  · exact qKp_lc hc hv hk
  · cases hv
theorem pIx_lc {r c : Nat} (hc : qCp l u) (hv : pIx dn up σ u r c = some v) {k : Nat} (hk : l ≤ k) : v k = u k := by
  unfold pIx at hv
  split at hv
  · cases hv
  · split at hv
    · cases hv
    · exact qNr_lc hc hv hk
theorem pGo_lc (hc : qCp l u) (hx : x.1 = 3 ∨ x.1 = 4 → x.2.1.toNat < l) (htk : tkX (zBl G) x ≤ h) (ht : (x.1 = 32 ∨ x.1 = 35 ∨ x.1 = 37 ∨ x.1 = 38 ∨ x.1 = 31 ∨ x.1 = 18 → 1 ≤ h) ∧ (x.1 = 7 ∨ x.1 = 33 ∨ x.1 = 36 ∨ (8 ≤ x.1 ∧ x.1 ≤ 17) → 2 ≤ h)) {k : Nat} (hk : l ≤ k) (hk12 : k < 12) (hU : u k = wU) (hv : pGo G σ x h u = some v) : v k = wU := by
  unfold pGo at hv
  by_cases c0 : x.1 = 0
  · rw [if_pos c0] at hv; cases hv; rw [up12 (by omega) hk12]; exact hU
  rw [if_neg c0] at hv
  by_cases c1 : x.1 = 1
  · rw [if_pos c1] at hv; cases hv; rw [up12 (by omega) hk12]; exact hU
  rw [if_neg c1] at hv
  by_cases c2 : x.1 = 2
  · rw [if_pos c2] at hv; cases hv; rw [up12 (by omega) hk12]; exact hU
  rw [if_neg c2] at hv
  have hCh : ∀ a, qCh u a k = wU := fun a => by
    show wCh (u k) a = wU
    rw [hU]
    unfold wCh wU
    dsimp only
    rw [if_neg (fun r => by cases r)]
    rfl
  by_cases c3 : x.1 = 3
  · rw [if_pos c3] at hv; cases hv; rw [qUp_ne (by have := hx (Or.inl c3); omega)]; exact hCh _
  rw [if_neg c3] at hv
  by_cases c4 : x.1 = 4
  · rw [if_pos c4] at hv; cases hv; rw [qUp_ne (by have := hx (Or.inr c4); omega)]; exact hCh _
  rw [if_neg c4] at hv
  by_cases c5 : x.1 = 5
  · rw [if_pos c5] at hv; cases hv; rw [up12 (by omega) hk12]; exact hU
  rw [if_neg c5] at hv
  by_cases c6 : x.1 = 6 ∨ x.1 = 45 ∨ x.1 = 19
  · rw [if_pos c6] at hv; cases hv; exact hU
  rw [if_neg c6] at hv
  by_cases c7 : x.1 = 7
  · rw [if_pos c7] at hv; cases hv; rw [up12 (by omega) hk12, up12 (by omega) hk12]; exact hU
  rw [if_neg c7] at hv
  by_cases c8 : 8 ≤ x.1 ∧ x.1 ≤ 17
  · rw [if_pos c8] at hv
    obtain ⟨r, -, r2⟩ := oB_some hv
    cases r2
    rw [up12 (by omega) hk12]; exact hU
  rw [if_neg c8] at hv
  by_cases c18 : x.1 = 18
  · rw [if_pos c18] at hv; cases hv; rw [up12 (by omega) hk12]; exact hU
  rw [if_neg c18] at hv
  by_cases c30 : x.1 = 30
  · rw [if_pos c30] at hv; cases hv; rw [up12 (by omega) hk12]; exact hU
  rw [if_neg c30] at hv
  by_cases c31 : x.1 = 31
  · rw [if_pos c31] at hv
    split at hv
    · cases hv
    · cases hv; rw [up12 (by omega) hk12]; exact hU
  rw [if_neg c31] at hv
  by_cases c32 : x.1 = 32
  · rw [if_pos c32] at hv
    obtain ⟨a, a1, a2⟩ := oB_some hv
    obtain ⟨b, b1, b2⟩ := oB_some a2
    cases b2
    rw [up12 (by omega) hk12, pDr_lc hc a1 hk]; exact hU
  rw [if_neg c32] at hv
  by_cases c33 : x.1 = 33
  · rw [if_pos c33] at hv
    obtain ⟨a, a1, a2⟩ := oB_some hv
    obtain ⟨b, b1, b2⟩ := oB_some a2
    obtain ⟨d, d1, d2⟩ := oB_some b2
    cases d2
    rw [up12 (by omega) hk12, pIx_lc (pDr_at hc a1).2.1 b1 hk, pDr_lc hc a1 hk]; exact hU
  rw [if_neg c33] at hv
  by_cases c34 : x.1 = 34
  · rw [if_pos c34] at hv
    obtain ⟨a, a1, a2⟩ := oB_some hv
    obtain ⟨b, b1, b2⟩ := oB_some a2
    split at b2
    · cases b2
      rw [pIx_lc (pDr_at hc a1).2.1 b1 hk, pDr_lc hc a1 hk]; exact hU
    · cases b2
  rw [if_neg c34] at hv
  by_cases c35 : x.1 = 35
  · rw [if_pos c35] at hv
    obtain ⟨a, a1, a2⟩ := oB_some hv
    obtain ⟨b, b1, b2⟩ := oB_some a2
    cases b2
    rw [up12 (by omega) hk12, pDr_lc hc a1 hk]; exact hU
  rw [if_neg c35] at hv
  by_cases c36 : x.1 = 36
  · rw [if_pos c36] at hv
    rw [pDr_lc hc hv hk]; exact hU
  rw [if_neg c36] at hv
  by_cases c37 : x.1 = 37
  · rw [if_pos c37] at hv
    split at hv
    · have hc' : qCp l (qUp u (12 + h - 1) (wSt (u (12 + h - 1)) (sAnd (u (12 + h - 1)).2.2.1 (sOr (pB (zUs G) (zZ G) x.2.1) (onS 62))))) := qCp_same hc (fun j => by
        by_cases e : j = 12 + h - 1
        · rw [e, qUp_at]; rfl
        · rw [qUp_ne e]) (fun j => by
        by_cases e : j = 12 + h - 1
        · rw [e, qUp_at]; rfl
        · rw [qUp_ne e])
      rw [qKp_lc hc' hv hk, up12 (by omega) hk12]; exact hU
    · cases hv
  rw [if_neg c37] at hv
  by_cases c38 : x.1 = 38
  · rw [if_pos c38] at hv; cases hv; rw [up12 (by omega) hk12]; exact hU
  rw [if_neg c38] at hv
  by_cases c39 : x.1 = 39 ∨ x.1 = 40
  · rw [if_pos c39] at hv
    obtain ⟨a, a1, a2⟩ := oB_some hv
    have ea : a k = wU := by
      by_cases c40 : x.1 = 40
      · rw [if_pos c40] at a1
        rw [pDr_lc hc a1 hk]; exact hU
      · rw [if_neg c40] at a1
        cases a1; exact hU
    split at a2
    · split at a2
      · cases a2; exact ea
      · obtain ⟨b, b1, b2⟩ := oB_some a2
        cases b2
        rw [up12 (by omega) hk12]; exact ea
    · cases a2
  rw [if_neg c39] at hv
  by_cases c44 : x.1 = 44
  · rw [if_pos c44] at hv; cases hv; rw [up12 (by omega) hk12]; exact hU
  rw [if_neg c44] at hv
  cases hv
end RLC
