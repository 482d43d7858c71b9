/-! Lines: the reference's instructions, by their operands. -/
section MCF
variable {tx : List (List Int)} {P : Nat} {ns : List (List Int)} {us : List Int} {fl : List (List Int × Nat × Int)} {bl : List jB} {ls : List (List Int × Nat × Nat)} {en b : Nat} {lc : Int}
theorem rA_o {o : Nat} {x y : Int} {b a : Nat} (h : ¬ (o = 30 ∨ o = 31)) (h2 : ¬ (o = 37 ∨ o = 38)) : rA (o, x, y, b, a) = x := by unfold rA; rw [if_neg h, if_neg h2]
theorem rB_o {o : Nat} {x y : Int} {b a : Nat} (h : ¬ (o = 30 ∨ o = 31)) : rB2 (o, x, y, b, a) = y := by unfold rB2; rw [if_neg h]
theorem fK_37 : ∀ o : Nat, o < 46 → (fK o = 7 ↔ o = 37 ∨ o = 38) := by decide +kernel
/-- references -/
theorem m_refM (hP : P = 122 ∨ P = 168) {S : nk_S} (hV : rVm S tx P ns us fl bl) (hu : uOk us) (hO : fOk us fl) (hOb : bOk us bl) {n o t : Nat} (hn : n < 1024) (ht : fR tx t = true) (hop : o = 35 ∨ o = 36 ∨ o = 39 ∨ o = 40) : ja_X13_reference 121 P (n : Int) (o : Int) (t : Int) S = match oM ns us fl bl o (tx.getD t []) with
    | none => some (0, nk_wi S 121 12 (t : Int))
    | some q => some (1, nk_wi (nk_wi S (P + 16) n q.1) (P + 17) n q.2) := by
  obtain ⟨hM, hC, hF, hB⟩ := hV
  have hT := hM.2.1
  have hns := hC.2.1
  have htl := fR_T ht
  obtain ⟨f, u, e1, e2, e3, e4, e5, e6⟩ := MW_get hM htl
  obtain ⟨l, hl⟩ : ∃ l, l = tx.getD t [] := ⟨_, rfl⟩
  have hq := (of_decide_eq_true (show refQ l = true by rw [hl]; exact ht))
  have hdl : dot l < l.length := (refQ_nm (show refQ l = true by rw [hl]; exact ht)).2.2.2
  have hll : l.length = u - f := by rw [hl, ← e5, sg_len]
  have et : sg (S.1 215) f (f + dot l) = l.take (dot l) := by rw [← sg_take (show f + dot l ≤ u by omega), e5, hl]
  have ed : sg (S.1 215) (f + dot l + 1) u = l.drop (dot l + 1) := by
    have := sg_drop (g := S.1 215) (k := dot l + 1) (f := f) (t := u) (by omega)
    rw [e5, ← hl] at this
    rw [this]
    rfl
  have hcls := m_classOf hM hP hC (f := f) (t := f + dot l) (by omega) (by omega)
  rw [et] at hcls
  have h126 : ja_X13_reference_b126 121 (t : Int) S = some (0, nk_wi S 121 12 (t : Int)) := rfl
  have h133 : ∀ c f : Int, ja_X13_reference_b133 P (n : Int) c f S = some (1, nk_wi (nk_wi S (P + 16) n f) (P + 17) n c) := by
    intro c f
    unfold ja_X13_reference_b133
    rw [if_pos (in_i (N := 1024) (by omega)), lt_eq, lt_eq, (jcP hP 23 (by decide) : ja_c P 23 = P + 16), (jcP hP 24 (by decide) : ja_c P 24 = P + 17), Int.toNat_natCast]
  unfold ja_X13_reference
  rw [m_point hM htl e1, ← hl, bd_some, if_pos (in_i (N := 16002) (by omega)), jc_121_8, jc_121_9, Int.toNat_natCast, e1, hcls, bd_some]
  unfold oM
  have r4 := amx_rg (l.take (dot l)) ns 0
  by_cases q1 : amx (l.take (dot l)) ns 0 < 0
  · rw [if_neg (show ¬ 0 ≤ amx (l.take (dot l)) ns 0 by omega), if_pos q1]
    rfl
  rw [if_pos (show 0 ≤ amx (l.take (dot l)) ns 0 by omega), if_neg q1]
  obtain ⟨k, hk⟩ : ∃ k : Nat, amx (l.take (dot l)) ns 0 = (k : Int) := ⟨(amx (l.take (dot l)) ns 0).toNat, by omega⟩
  have hkl : k < ns.length := by omega
  rw [hk, Int.toNat_natCast]
  have h48 : ja_X13_reference_b48 121 P (n : Int) (o : Int) (t : Int) ((f + dot l : Nat) : Int) (k : Int) S = ja_X13_reference_b87 121 P (n : Int) (o : Int) (t : Int) (k : Int) (fdL us k (l.drop (dot l + 1)) fl 0) S := by
    unfold ja_X13_reference_b48
    rw [if_pos (in_i (N := 16002) (by omega)), w_nat1 (by omega), jc_121_9, Int.toNat_natCast, e2, m_fieldOf hM hP hC hu hF hO hkl (by omega) e4, bd_some, ed]
  by_cases q5 : o = 35 ∨ o = 36
  · rw [if_pos q5]
    have h87 : ja_X13_reference_b87 121 P (n : Int) (o : Int) (t : Int) (k : Int) (fdL us k (l.drop (dot l + 1)) fl 0) S = if fdL us k (l.drop (dot l + 1)) fl 0 < 0 then some (0, nk_wi S 121 12 (t : Int)) else some (1, nk_wi (nk_wi S (P + 16) n (fdL us k (l.drop (dot l + 1)) fl 0)) (P + 17) n (k : Int)) := by
      unfold ja_X13_reference_b87 ja_X13_reference_b110
      rw [if_neg (show ¬ (o : Int) = 39 by omega), if_neg (show ¬ (o : Int) = 40 by omega), h126, h133]
    have hgo : (if (o : Int) = 35 then ja_X13_reference_b48 121 P (n : Int) (o : Int) (t : Int) ((f + dot l : Nat) : Int) (k : Int) S else if (o : Int) = 36 then ja_X13_reference_b48 121 P (n : Int) (o : Int) (t : Int) ((f + dot l : Nat) : Int) (k : Int) S else nk_bd (ja_X13_bodyOf 121 P (k : Int) (nk_w (((f + dot l : Nat) : Int) + 1)) (S.1 217 t) S) fun r10 S11 => ja_X13_reference_b87 121 P (n : Int) (o : Int) (t : Int) (k : Int) r10 S11) = ja_X13_reference_b48 121 P (n : Int) (o : Int) (t : Int) ((f + dot l : Nat) : Int) (k : Int) S := by
      rcases q5 with q5 | q5
      · rw [if_pos (show (o : Int) = 35 by omega)]
      · rw [if_neg (show ¬ (o : Int) = 35 by omega), if_pos (show (o : Int) = 36 by omega)]
    rw [hgo, h48, h87]
    by_cases q : fdL us k (l.drop (dot l + 1)) fl 0 < 0
    · rw [if_pos q, if_pos q]
    · rw [if_neg q, if_neg q]
  · rw [if_neg q5, if_neg (show ¬ (o : Int) = 35 by omega), if_neg (show ¬ (o : Int) = 36 by omega), w_nat1 (by omega), e2, m_bodyOf hM hP hC hu hB hOb hkl (by omega) e4, bd_some, ed]
    have ho48 := hOb.1
    unfold ja_X13_reference_b87 ja_X13_reference_b110
    rw [h126, h133]
    rcases bdL_rg (us := us) (c := k) (n := l.drop (dot l + 1)) bl 0 (-1) with h | ⟨i, y, h1, h3, h4⟩
    · rw [h, if_pos (by decide)]
      cases bl[((-1 : Int)).toNat]? with
      | none => rfl
      | some y =>
        dsimp only
        rw [if_pos (Or.inl (by decide))]
    · have hi := at_lt h3
      have hy := (hB.2 i y h3).2.1
      have hy' : S.1 (P + (14 - 7)) i = bi y.me := hy
      rw [h1, Nat.zero_add, if_neg (by omega), Int.toNat_natCast, h3, if_pos (in_i (N := 48) (by omega)), (jcP hP 14 (by decide) : ja_c P 14 = P + 7), hy']
      dsimp only
      by_cases q40 : o = 40
      · rw [if_neg (show ¬ (o : Int) = 39 by omega), if_pos (show (o : Int) = 40 by omega), decide_eq_true q40, if_pos (in_i (N := 48) (by omega))]
        cases hme : y.me with
        | true =>
          rw [if_neg (show ¬ bi true = 0 by decide), if_neg (fun hh => hh.elim (fun e => by omega) (fun e => e rfl))]
        | false =>
          rw [if_pos (show bi false = 0 from rfl), if_pos (Or.inr (by decide))]
      · rw [if_pos (show (o : Int) = 39 by omega), if_neg (show ¬ (o : Int) = 40 by omega), decide_eq_false q40]
        cases hme : y.me with
        | false =>
          rw [if_pos (show bi false = 0 from rfl), if_neg (fun hh => hh.elim (fun e => by omega) (fun e => e rfl))]
        | true =>
          rw [if_neg (show ¬ bi true = 0 by decide), if_pos (Or.inr (by decide))]
end MCF
