/-! Lines: the reference's instructions. -/
section MCE
variable {tx : List (List Int)} {P : Nat} {ns : List (List Int)} {us : List Int} {fl : List (List Int × Nat × Int)} {bl : List jB} {ls : List (List Int × Nat × Nat)} {en b : Nat} {lc : Int} {z : jL}
theorem rCd_push {S S' : nk_S} {cl : List jC} {x : jC} (hC : rCd S P cl) (h3 : S'.1 P 3 = ((cl.length + 1 : Nat) : Int)) (hi : ∀ c i, c = 224 ∨ (P + 15 ≤ c ∧ c ≤ P + 18) → i ≠ cl.length → S'.1 c i = S.1 c i) (h15 : S'.1 (P + 15) cl.length = (x.1 : Int)) (h16 : S'.1 (P + 16) cl.length = rA x) (h17 : S'.1 (P + 17) cl.length = rB2 x) (h18 : S'.1 (P + 18) cl.length = (x.2.2.2.1 : Int)) (h24 : S'.1 224 cl.length = (x.2.2.2.2 : Int)) : rCd S' P (cl ++ [x]) := by
  refine ⟨by rw [h3, List.length_append]; rfl, fun i y hy => ?_⟩
  rcases fl_case hy with ⟨l1, e⟩ | ⟨l1, e⟩
  · have hne : i ≠ cl.length := by omega
    rw [hi _ i (by omega) hne, hi _ i (by omega) hne, hi _ i (by omega) hne, hi _ i (by omega) hne, hi _ i (by omega) hne]
    exact hC.2 i y e
  · rw [l1, e]
    exact ⟨h15, h16, h17, h18, h24⟩
/-- an instruction begins -/
def mT (P : Nat) (S : nk_S) (n o a b : Nat) : nk_S := nk_wi (nk_wi (nk_wi (nk_wi (nk_wi (nk_wi S 224 n (a : Int)) (P + 15) n (o : Int)) (P + 18) n (b : Int)) (P + 16) n 0) (P + 17) n 0) P 3 ((n + 1 : Nat) : Int)
theorem mT_n (hP : P = 122 ∨ P = 168) {S : nk_S} {n o a b c : Nat} (h1 : c ≠ 224) (h2 : c ≠ P) (h3 : ¬ (P + 15 ≤ c ∧ c ≤ P + 18)) : (mT P S n o a b).1 c = S.1 c := by
  unfold mT
  rw [wi_n h2, wi_n (by omega), wi_n (by omega), wi_n (by omega), wi_n (by omega), wi_n h1]
theorem mT_i (hP : P = 122 ∨ P = 168) {S : nk_S} {n o a b c i : Nat} (h : i ≠ n) (h2 : c ≠ P) : (mT P S n o a b).1 c i = S.1 c i := by
  unfold mT
  rw [wi_n h2]
  simp only [wi_v, h, and_false, if_false]
theorem mT_P (hP : P = 122 ∨ P = 168) {S : nk_S} {n o a b i : Nat} (h : i ≠ 3) : (mT P S n o a b).1 P i = S.1 P i := by
  unfold mT
  rw [wi_at, if_neg h, wi_n (by omega), wi_n (by omega), wi_n (by omega), wi_n (by omega), wi_n (by omega)]
theorem mT_v (hP : P = 122 ∨ P = 168) {S : nk_S} {n o a b : Nat} : (mT P S n o a b).1 P 3 = ((n + 1 : Nat) : Int) ∧ (mT P S n o a b).1 (P + 15) n = (o : Int) ∧ (mT P S n o a b).1 (P + 16) n = 0 ∧ (mT P S n o a b).1 (P + 17) n = 0 ∧ (mT P S n o a b).1 (P + 18) n = (b : Int) ∧ (mT P S n o a b).1 224 n = (a : Int) ∧ (mT P S n o a b).2 = S.2 := by
  unfold mT
  refine ⟨?_, ?_, ?_, ?_, ?_, ?_, rfl⟩
  · rw [wi_at, if_pos rfl]
  · rw [wi_n (by omega), wi_n (by omega), wi_n (by omega), wi_n (by omega), wi_at, if_pos rfl]
  · rw [wi_n (by omega), wi_n (by omega), wi_at, if_pos rfl]
  · rw [wi_n (by omega), wi_at, if_pos rfl]
  · rw [wi_n (by omega), wi_n (by omega), wi_n (by omega), wi_at, if_pos rfl]
  · rw [wi_n (by omega), wi_n (by omega), wi_n (by omega), wi_n (by omega), wi_n (by omega), wi_at, if_pos rfl]
/-- it ends: an instruction without a site -/
theorem m_done (hP : P = 122 ∨ P = 168) {S S' : nk_S} {cl : List jC} {sl : List Int} {kl : List (Nat × Nat × Nat × Nat × Nat)} {nl nl' : List Int} {o a : Nat} {x y : Int} (hZ : rJL S P (cl, sl, kl, nl)) (h2 : S'.2 = S.2) (hc : ∀ c, c ≠ P → c ≠ P + 16 → c ≠ P + 17 → c ≠ P + 26 → S'.1 c = (mT P S cl.length o a b).1 c) (hp : ∀ i, i ≠ 7 → S'.1 P i = (mT P S cl.length o a b).1 P i) (hi : ∀ c i, c = P + 16 ∨ c = P + 17 → i ≠ cl.length → S'.1 c i = S.1 c i) (h16 : S'.1 (P + 16) cl.length = rA (o, x, y, b, a)) (h17 : S'.1 (P + 17) cl.length = rB2 (o, x, y, b, a)) (hT : rTh S' P nl') : rJL S' P (cl ++ [(o, x, y, b, a)], sl, kl, nl') ∧ rK P S S' := by
  obtain ⟨z1, z2, z3, z4⟩ := hZ
  obtain ⟨v1, v2, v3, v4, v5, v6, v7⟩ := mT_v (S := S) (n := cl.length) (o := o) (a := a) (b := b) hP
  have cn : ∀ c, c ≠ 224 → c ≠ P → ¬ (P + 15 ≤ c ∧ c ≤ P + 18) → c ≠ P + 26 → S'.1 c = S.1 c := fun c x1 x2 x3 x4 => by rw [hc c x2 (by omega) (by omega) x4, mT_n hP x1 x2 x3]
  have cp : ∀ i, i ≠ 3 → i ≠ 7 → S'.1 P i = S.1 P i := fun i x1 x2 => by rw [hp i x2, mT_P hP x1]
  refine ⟨⟨rCd_push z1 (by rw [hp 3 (by decide)]; exact v1) (fun c i hcc hne => ?_) (by rw [hc _ (by omega) (by omega) (by omega) (by omega)]; exact v2) h16 h17 (by rw [hc _ (by omega) (by omega) (by omega) (by omega)]; exact v5) (by rw [hc _ (by omega) (by omega) (by omega) (by omega)]; exact v6), ?_, ?_, hT⟩, ⟨h2, fun c x1 x2 x3 x4 x5 => cn c x2 x3 x4 (by omega), fun i _ => by rw [cn 121 (by omega) (by omega) (by omega) (by omega)], fun i x1 _ _ x4 => cp i x1 x4⟩⟩
  · by_cases e : c = P + 16 ∨ c = P + 17
    · exact hi c i e hne
    · rw [hc c (by omega) (by omega) (by omega) (by omega), mT_i hP hne (by omega)]
  · have z2' : rSl S P sl := z2
    show rSl S' P sl
    unfold rSl at z2' ⊢
    rw [cp 4 (by decide) (by decide), cn (P + 20) (by omega) (by omega) (by omega) (by omega)]
    exact z2'
  · have z3' : rKl S P kl := z3
    show rKl S' P kl
    unfold rKl at z3' ⊢
    rw [cp 5 (by decide) (by decide), cn (P + 21) (by omega) (by omega) (by omega) (by omega), cn (P + 22) (by omega) (by omega) (by omega) (by omega), cn (P + 23) (by omega) (by omega) (by omega) (by omega), cn (P + 24) (by omega) (by omega) (by omega) (by omega), cn (P + 25) (by omega) (by omega) (by omega) (by omega)]
    exact z3'
theorem rK_T (hP : P = 122 ∨ P = 168) {S : nk_S} {n o a b : Nat} : rK P S (mT P S n o a b) := ⟨rfl, fun c x1 x2 x3 x4 x5 => mT_n hP x2 x3 x4, fun i _ => by rw [mT_n hP (by omega) (by omega) (by omega)], fun i x1 _ _ _ => mT_P hP x1⟩
theorem rK_16 (hP : P = 122 ∨ P = 168) {S : nk_S} {c n : Nat} {x : Int} (hc : c = P + 16 ∨ c = P + 17) : rK P S (nk_wi S c n x) := ⟨rfl, fun d _ _ _ x4 _ => wi_n (by omega), fun i _ => by rw [wi_n (by omega)], fun i _ _ _ _ => by rw [wi_n (by omega)]⟩
theorem m_num {S : nk_S} (hM : MW S tx) {p : Nat} (h : fU tx p = true) : ja_X13_number 121 (p : Int) S = some (nval (tx.getD p []), S) := by
  have hp := fU_T h
  unfold fU isNum at h
  have h' := of_decide_eq_true h
  exact (m_number hM hp h'.2.1 h'.2.2.1).1
/-- a local's number -/
theorem m_local (hP : P = 122 ∨ P = 168) {S : nk_S} (hM : MW S tx) (hb : b < 48) (hlc : S.1 (P + 11) b = lc) {n p : Nat} (hn : n < 1024) (h : fU tx p = true) : ja_X13_localStep 121 P (b : Int) (n : Int) (p : Int) S = if 0 ≤ nval (tx.getD p []) ∧ nval (tx.getD p []) < lc then some (1, nk_wi S (P + 16) n (nval (tx.getD p []))) else some (0, nk_wi S 121 12 (p : Int)) := by
  have hr := nval_rg h
  unfold ja_X13_localStep
  rw [m_num hM h, bd_some]
  have h28 : ja_X13_localStep_b28 121 (p : Int) S = some (0, nk_wi S 121 12 (p : Int)) := rfl
  by_cases q : nval (tx.getD p []) < 0
  · rw [if_pos q, if_neg (show ¬ (0 ≤ nval (tx.getD p []) ∧ nval (tx.getD p []) < lc) by omega), h28]
  · rw [if_neg q, if_pos (in_i (N := 48) (by omega)), (jcP hP 18 (by decide) : ja_c P 18 = P + 11), Int.toNat_natCast]
    have hlc' : S.1 (P + (18 - 7)) b = lc := hlc
    rw [hlc']
    by_cases q2 : nval (tx.getD p []) < lc
    · rw [if_pos q2, if_pos (show 0 ≤ nval (tx.getD p []) ∧ nval (tx.getD p []) < lc by omega), if_pos (in_i (N := 1024) (by omega)), lt_eq, (jcP hP 23 (by decide) : ja_c P 23 = P + 16), Int.toNat_natCast, nk_w_id (z := nval (tx.getD p [])) (by omega) (by omega)]
    · rw [if_neg q2, if_neg (show ¬ (0 ≤ nval (tx.getD p []) ∧ nval (tx.getD p []) < lc) by omega), h28]
/-- a made site -/
theorem m_made (hP : P = 122 ∨ P = 168) {S : nk_S} {sl : List Int} (hs : S.1 P 4 = (sl.length : Int)) (h48 : sl.length < 48) {n : Nat} (hn : n < 1024) (t : Int) : ja_X13_madeStep_b86 P (n : Int) (P + 20) (S.1 P 4) t S = some (1, nk_wi (nk_wi (nk_wi S (P + 20) sl.length t) (P + 16) n (sl.length : Int)) P 4 ((sl.length + 1 : Nat) : Int)) := by
  unfold ja_X13_madeStep_b86
  rw [hs, if_pos (in_i (N := 54) (by omega)), lt_eq, Int.toNat_natCast, if_pos (in_i (N := 1024) (by omega)), lt_eq, (jcP hP 23 (by decide) : ja_c P 23 = P + 16), Int.toNat_natCast, wi_n (show P ≠ P + 20 by omega), hs, lt_eq, wi_n (show P ≠ P + 16 by omega), wi_n (show P ≠ P + 20 by omega), hs, w_nat1 (by omega)]
/-- it ends: an instruction with a site -/
theorem m_doneS (hP : P = 122 ∨ P = 168) {S : nk_S} {cl : List jC} {sl : List Int} {kl : List (Nat × Nat × Nat × Nat × Nat)} {nl : List Int} {o a : Nat} {x t : Int} (hZ : rJL S P (cl, sl, kl, nl)) (ho : o = 30 ∨ o = 31) {U : nk_S} (hU : U = nk_wi (nk_wi (nk_wi (mT P S cl.length o a b) (P + 20) sl.length (rvT t)) (P + 16) cl.length (sl.length : Int)) P 4 ((sl.length + 1 : Nat) : Int)) : rJL U P (cl ++ [(o, x, (sl.length : Int), b, a)], sl ++ [t], kl, nl) ∧ rK P S U := by
  obtain ⟨z1, z2, z3, z4⟩ := hZ
  obtain ⟨v1, v2, v3, v4, v5, v6, v7⟩ := mT_v (S := S) (n := cl.length) (o := o) (a := a) (b := b) hP
  have un : ∀ c, c ≠ P → c ≠ P + 16 → c ≠ P + 20 → U.1 c = (mT P S cl.length o a b).1 c := fun c x1 x2 x3 => by rw [hU, wi_n x1, wi_n x2, wi_n x3]
  have uP : ∀ i, i ≠ 4 → U.1 P i = (mT P S cl.length o a b).1 P i := fun i hi => by rw [hU, wi_at, if_neg hi, wi_n (by omega), wi_n (by omega)]
  have cn : ∀ c, c ≠ 224 → c ≠ P → ¬ (P + 15 ≤ c ∧ c ≤ P + 18) → c ≠ P + 20 → U.1 c = S.1 c := fun c x1 x2 x3 x4 => by rw [un c x2 (by omega) x4, mT_n hP x1 x2 x3]
  have cp : ∀ i, i ≠ 3 → i ≠ 4 → U.1 P i = S.1 P i := fun i x1 x2 => by rw [uP i x2, mT_P hP x1]
  refine ⟨⟨rCd_push z1 (by rw [uP 3 (by decide)]; exact v1) (fun c i hcc hne => ?_) (by rw [un _ (by omega) (by omega) (by omega)]; exact v2) (by rw [hU, wi_n (by omega), wi_at, if_pos rfl]; unfold rA; rw [if_pos ho]) (by rw [un _ (by omega) (by omega) (by omega), v4]; unfold rB2; rw [if_pos ho]) (by rw [un _ (by omega) (by omega) (by omega)]; exact v5) (by rw [un _ (by omega) (by omega) (by omega)]; exact v6), ⟨by rw [hU, wi_at, if_pos rfl]; show _ = ((sl ++ [t]).length : Int); rw [List.length_append]; rfl, fun i u hu => ?_⟩, ?_, ?_⟩, ⟨by rw [hU]; exact v7, fun c x1 x2 x3 x4 x5 => cn c x2 x3 x4 (by omega), fun i _ => by rw [cn 121 (by omega) (by omega) (by omega) (by omega)], fun i x1 x2 _ _ => cp i x1 x2⟩⟩
  · by_cases e : c = P + 16
    · subst e
      rw [hU, wi_n (by omega), wi_at, if_neg hne, wi_n (by omega), mT_i hP hne (by omega)]
    · rw [un c (by omega) e (by omega), mT_i hP hne (by omega)]
  · rw [hU, wi_n (by omega), wi_n (by omega), wi_at]
    rcases fl_case hu with ⟨l1, e⟩ | ⟨l1, e⟩
    · rw [if_neg (by omega), mT_n hP (by omega) (by omega) (by omega)]
      exact z2.2 i u e
    · rw [if_pos l1, e]
  · have z3' : rKl S P kl := z3
    show rKl U P kl
    unfold rKl at z3' ⊢
    rw [cp 5 (by decide) (by decide), cn (P + 21) (by omega) (by omega) (by omega) (by omega), cn (P + 22) (by omega) (by omega) (by omega) (by omega), cn (P + 23) (by omega) (by omega) (by omega) (by omega), cn (P + 24) (by omega) (by omega) (by omega) (by omega), cn (P + 25) (by omega) (by omega) (by omega) (by omega)]
    exact z3'
  · have z4' : rTh S P nl := z4
    show rTh U P nl
    unfold rTh rTn at z4' ⊢
    rw [cp 7 (by decide) (by decide), cn (P + 26) (by omega) (by omega) (by omega) (by omega)]
    exact z4'
end MCE
