/-! Locals that a body does not have stay unset: comparisons. -/
section RLD
variable {l h rl : Nat} {u v : jQ} {dn up : Int → Int}
theorem pEq_o {a c k : Nat} (hv : pEq u a c = some v) (ha : k ≠ a) (hc : k ≠ c) : v k = u k := by
  unfold pEq at hv
  split at hv
  · cases hv; rw [qUp_ne hc, qUp_ne ha]
  · cases hv
theorem pNe_o {a c k : Nat} (hv : pNe dn up u a c = some v) (ha : k ≠ a) (hc : k ≠ c) : v k = u k := by
  unfold pNe at hv
  split at hv
  · cases hv; rw [qUp_ne hc, qUp_ne ha]
  · cases hv
theorem pOrd_o {a c k : Nat} {ls : Bool} (hv : pOrd dn up u a c ls = some v) (ha : k ≠ a) (hc : k ≠ c) : v k = u k := by
  unfold pOrd at hv
  split at hv
  · cases hv; rw [qUp_ne hc, qUp_ne ha]
  · cases hv
theorem qPs_lc {s : Nat} (hc : qCp l u) (hv : qPs u s = some v) {k : Nat} (hk : l ≤ k) : v k = u k := qNr_lc hc hv hk
theorem pWy_lc (hc : qCp l u) (h2 : rl ≠ 26 ∧ rl ≠ 27 → 2 ≤ h) {k : Nat} (hk : l ≤ k) (hk12 : k < 12) (hU : u k = wU) (hv : pWy dn up rl u h = some v) : v k = wU := by
  unfold pWy at hv
  by_cases c25 : rl ≤ 25
  · rw [if_pos c25] at hv
    have hh := h2 (by omega)
    obtain ⟨a, a1, a2⟩ := oB_some hv
    obtain ⟨b, b1, b2⟩ := oB_some a2
    have ha : a k = u k ∧ (∀ j, (a j).1 = (u j).1) ∧ ∀ j, (a j).2.2.2.1 = (u j).2.2.2.1 := by
      have n1 : k ≠ 12 + h - 2 := by omega
      have n2 : k ≠ 12 + h - 1 := by omega
      split at a1
      · exact ⟨pEq_o a1 n1 n2, pEq_k a1⟩
      · split at a1
        · exact ⟨pNe_o a1 n1 n2, pNe_k a1⟩
        · split at a1
          · exact ⟨pOrd_o a1 n1 n2, pOrd_k a1⟩
          · split at a1
            · exact ⟨pOrd_o a1 n1 n2, pOrd_k a1⟩
            · split at a1
              · exact ⟨pOrd_o a1 n2 n1, pOrd_k a1⟩
              · exact ⟨pOrd_o a1 n2 n1, pOrd_k a1⟩
    have hca : qCp l a := qCp_same hc ha.2.1 ha.2.2
    have hcb : qCp l b := qNr_cp hca b1
    rw [qPs_lc hcb b2 hk, qPs_lc hca b1 hk, ha.1]
    exact hU
  rw [if_neg c25] at hv
  by_cases c26 : rl = 26 ∨ rl = 27
  · rw [if_pos c26] at hv
    generalize (if rl = 26 then onS 62 else sAl) = K at hv
    split at hv
    · rw [qKp_lc hc hv hk]; exact hU
    · cases hv
  rw [if_neg c26] at hv
  by_cases c28 : rl = 28
  · rw [if_pos c28] at hv
    split at hv
    · obtain ⟨a, a1, a2⟩ := oB_some hv
      have h3 := (qKp_at hc a1).2
      have hca : qCp l a := qCp_same hc (fun j => (h3 j).1) (fun j => by rw [(h3 j).2.1])
      rw [qKp_lc hca a2 hk, qKp_lc hc a1 hk]
      exact hU
    · cases hv
  rw [if_neg c28] at hv
  cases hv
  exact hU
end RLD
