/-! The reference calculates: all of it. -/
section RNB
variable {F : Int → Prop} {dn up : Int → Int} {S : nk_S} {P n : Nat}
/-- what division raises -/
def rzN (op : Nat) (c : jR) (x : Int) : Int := if (op = 11 ∨ op = 12) ∧ c.1 ≤ 0 ∧ 0 ≤ c.2 then nk_ior x 8 else x
theorem r_num (hP : P = 122 ∨ P = 168) (hT : thG F dn up) (ht : rTn S P n F) (hn : n ≤ 3079) {h op : Nat} (hop : 8 ≤ op ∧ op ≤ 17) {u : jQ} (h8 : h ≤ 8) (h2 : 2 ≤ h) (ra : rOk F (u (12 + h - 2)).2.1) (rc : rOk F (u (12 + h - 1)).2.1) (hr : rRw S (12 + h) u) : ∃ S', ja_X13_numbers 121 P (op : Int) S = some (bi (kCalc dn up op (u (12 + h - 2)).2.1 (u (12 + h - 1)).2.1).isSome, S') ∧ nFr S S' ∧ S'.1 121 39 = rzN op (u (12 + h - 1)).2.1 (S.1 121 39) ∧ S'.1 121 40 = S.1 121 40 ∧ ∀ r, kCalc dn up op (u (12 + h - 2)).2.1 (u (12 + h - 1)).2.1 = some r → rRw S' (12 + h - 1) (qUp u (12 + h - 2) (wR r)) := by
  have e2 : ∀ _ : Unit, nk_w (((12 + h : Nat) : Int) - 2) = ((12 + h - 2 : Nat) : Int) := fun _ => top_w (d := 2) h8 (by omega)
  have e1 : ∀ _ : Unit, nk_w (((12 + h - 2 : Nat) : Int) + 1) = ((12 + h - 1 : Nat) : Int) := fun _ => by
    rw [show ((12 + h - 1 : Nat) : Int) = ((12 + h - 2 + 1 : Nat) : Int) by omega]
    exact w_nat1 (by omega)
  obtain ⟨T, hT0⟩ : ∃ T, T = nk_wi S 121 25 ((12 + h - 2 : Nat) : Int) := ⟨_, rfl⟩
  have fT : uFr S T := by rw [hT0]; exact uFr_25
  have xT : rX T (12 + h) u := by rw [hT0]; exact rX_25 hr.2
  have t25 : T.1 121 25 = ((12 + h - 2 : Nat) : Int) := by rw [hT0, wi_at, if_pos rfl]
  have rT : rRw T (12 + h - 2) u := ⟨t25, rX_w xT (by omega) (fun _ _ => rfl)⟩
  have hT2 : rTn T P n F := rTn_c (fun a h1 h2 => fT.2.1 a (by omega) h2) hP ht
  have iA := rOk_iR hT ra
  have iC := rOk_iR hT rc
  have lA := ra.2.2
  have lC := rc.2.2
  have a1 : T.1 230 (12 + h - 2) = (u (12 + h - 2)).2.1.1 := (xT (12 + h - 2) (by omega)).2.1
  have a2 : T.1 231 (12 + h - 2) = (u (12 + h - 2)).2.1.2 := (xT (12 + h - 2) (by omega)).2.2.1
  have c1 : T.1 230 (12 + h - 1) = (u (12 + h - 1)).2.1.1 := (xT (12 + h - 1) (by omega)).2.1
  have c2 : T.1 231 (12 + h - 1) = (u (12 + h - 1)).2.1.2 := (xT (12 + h - 1) (by omega)).2.2.1
  have up1 : 12 + h - 2 + 1 = 12 + h - 1 := by omega
  have iA' := iA
  have iC' := iC
  unfold iR2 iR at iA' iC'
  unfold ja_X13_numbers ja_X13_numbers_b47
  rw [if_neg (show ¬ (op : Int) = 18 by omega), hr.1, e2 (), lt_eq, ← hT0, t25, if_pos (in_i (N := 24) (by omega)), jc_121_27, jc_121_28, Int.toNat_natCast, e1 (), a1, a2, lt_eq, lt_eq, if_pos (in_i (N := 24) (by omega)), Int.toNat_natCast, c1, c2, lt_eq, lt_eq]
  generalize hA : (u (12 + h - 2)).2.1 = A at *
  generalize hC : (u (12 + h - 1)).2.1 = C at *
  -- when a range is left and nothing raised
  have fin : ∀ {o : Option jR} {r : jR} {S' : nk_S}, o = some r → (op ≠ 11 ∧ op ≠ 12) → uFr T S' → rRw S' (12 + h - 2 + 1) (qUp u (12 + h - 2) (wR r)) → ∃ S'', some ((1 : Int), S') = some (bi o.isSome, S'') ∧ nFr S S'' ∧ S''.1 121 39 = rzN op C (S.1 121 39) ∧ S''.1 121 40 = S.1 121 40 ∧ ∀ r, o = some r → rRw S'' (12 + h - 1) (qUp u (12 + h - 2) (wR r)) := fun {o r S'} ho hq hf hw => by
    subst ho
    refine ⟨S', rfl, nFr_trans (nFr_u fT) (nFr_u hf), ?_, by rw [hf.2.2 40 (by decide), fT.2.2 40 (by decide)], fun r' q => ?_⟩
    · unfold rzN
      rw [if_neg (by omega), hf.2.2 39 (by decide), fT.2.2 39 (by decide)]
    · cases q
      rw [← up1]; exact hw
  have all := rAr_all hT
  have fAll : ∀ (l r : Int), l = -2147483648 → r = 2147483647 → ∃ S', ja_X13_leaveRange 121 P l r T = some (0, S') ∧ uFr T S' ∧ rRw S' (12 + h - 2 + 1) (qUp u (12 + h - 2) (wR rAll)) := fun l r hl hr' => by
    obtain ⟨S', s1, s2, s3⟩ := r_lv hP hT hT2 hn (t := 12 + h - 2) (by omega) rT (show (-2147483648 : Int) ≤ 2147483647 by omega)
    rw [all] at s3
    rw [hl, hr']
    exact ⟨S', s1, s2, s3⟩
  unfold kCalc
  by_cases o8 : op = 8
  · rw [if_pos (show (op : Int) = 8 by omega), if_pos o8, W_id (by unfold lR; omega), W_id (by unfold lR; omega)]
    obtain ⟨S', s1, s2, s3⟩ := r_lv hP hT hT2 hn (t := 12 + h - 2) (by omega) rT (show A.1 + C.1 ≤ A.2 + C.2 by omega)
    rw [s1, bd_some]
    exact fin rfl (by omega) s2 s3
  rw [if_neg (show ¬ (op : Int) = 8 by omega), if_neg o8]
  by_cases o9 : op = 9
  · rw [if_pos (show (op : Int) = 9 by omega), if_pos o9, W_id (by unfold lR; omega), W_id (by unfold lR; omega)]
    obtain ⟨S', s1, s2, s3⟩ := r_lv hP hT hT2 hn (t := 12 + h - 2) (by omega) rT (show A.1 - C.2 ≤ A.2 - C.1 by omega)
    rw [s1, bd_some]
    exact fin rfl (by omega) s2 s3
  rw [if_neg (show ¬ (op : Int) = 9 by omega), if_neg o9]
  by_cases o10 : op = 10
  · rw [if_pos (show (op : Int) = 10 by omega), if_pos o10]
    obtain ⟨S', s1, s2, s3⟩ := r_product hP hT hT2 hn (t := 12 + h - 2) (by omega) rT iA (l := C.1) (h := C.2) (by omega) (by omega)
    rw [s1, bd_some]
    exact fin rfl (by omega) s2 s3
  rw [if_neg (show ¬ (op : Int) = 10 by omega), if_neg o10]
  have raise : ∀ {o : Option jR} {S' : nk_S}, (op = 11 ∨ op = 12) → uFr (rz8 C T) S' → (∀ r, o = some r → rRw S' (12 + h - 2 + 1) (qUp u (12 + h - 2) (wR r))) → nFr S S' ∧ S'.1 121 39 = rzN op C (S.1 121 39) ∧ S'.1 121 40 = S.1 121 40 ∧ ∀ r, o = some r → rRw S' (12 + h - 1) (qUp u (12 + h - 2) (wR r)) := fun {o S'} hq hf hw => by
    obtain ⟨f1, f2, f3, f4⟩ := rz8_f (S := T) (c := C)
    refine ⟨nFr_trans (nFr_trans (nFr_u fT) f1) (nFr_u hf), ?_, by rw [hf.2.2 40 (by decide), f3, fT.2.2 40 (by decide)], fun r' q => by rw [← up1]; exact hw r' q⟩
    rw [hf.2.2 39 (by decide), f2, fT.2.2 39 (by decide)]
    unfold rzN
    by_cases q : C.1 ≤ 0 ∧ 0 ≤ C.2
    · rw [if_pos q, if_pos ⟨hq, q⟩]
    · rw [if_neg q, if_neg (fun w => q w.2)]
  by_cases o11 : op = 11
  · rw [if_pos (show (op : Int) = 11 by omega), if_pos o11]
    obtain ⟨S', s1, s2, s3⟩ := r_quotient hP hT hT2 hn (t := 12 + h - 2) (by omega) rT iA iC
    rw [s1, bd_some, if_pos (bi_01 _)]
    exact ⟨S', rfl, raise (Or.inl o11) s2 s3⟩
  rw [if_neg (show ¬ (op : Int) = 11 by omega), if_neg o11]
  by_cases o12 : op = 12
  · rw [if_pos (show (op : Int) = 12 by omega), if_pos o12]
    obtain ⟨S', s1, s2, s3⟩ := r_rest hP hT hT2 hn (t := 12 + h - 2) (by omega) rT iA iC lA lC
    rw [s1, bd_some, if_pos (bi_01 _)]
    exact ⟨S', rfl, raise (Or.inr o12) s2 s3⟩
  rw [if_neg (show ¬ (op : Int) = 12 by omega), if_neg o12]
  by_cases o13 : op = 13
  · rw [if_pos (show (op : Int) = 13 by omega), if_pos o13]
    unfold kAnd
    by_cases q1 : 0 ≤ A.1
    · rw [if_neg (show ¬ A.1 < 0 by omega), if_pos q1]
      by_cases q2 : 0 ≤ C.1
      · rw [if_neg (show ¬ C.1 < 0 by omega), if_pos q2, mnL', bd_some]
        obtain ⟨S', s1, s2, s3⟩ := r_lv hP hT hT2 hn (t := 12 + h - 2) (by omega) rT (show (0 : Int) ≤ min A.2 C.2 by omega)
        rw [s1, bd_some]
        exact fin rfl (by omega) s2 s3
      · obtain ⟨S', s1, s2, s3⟩ := r_lv hP hT hT2 hn (t := 12 + h - 2) (by omega) rT (show (0 : Int) ≤ A.2 by omega)
        rw [if_pos (show C.1 < 0 by omega), if_neg q2]
        unfold ja_X13_numbers_b261 ja_X13_numbers_b274 ja_X13_numbers_b290
        rw [if_pos q1, if_neg (show ¬ A.1 < 0 by omega), s1, bd_some]
        exact fin rfl (by omega) s2 s3
    · rw [if_pos (show A.1 < 0 by omega), if_neg q1]
      unfold ja_X13_numbers_b261 ja_X13_numbers_b274 ja_X13_numbers_b290
      rw [if_neg q1]
      by_cases q2 : 0 ≤ C.1
      · obtain ⟨S', s1, s2, s3⟩ := r_lv hP hT hT2 hn (t := 12 + h - 2) (by omega) rT (show (0 : Int) ≤ C.2 by omega)
        rw [if_neg (show ¬ C.1 < 0 by omega), if_pos q2, if_pos (show A.1 < 0 by omega), s1, bd_some]
        exact fin rfl (by omega) s2 s3
      · obtain ⟨S', s1, s2, s3⟩ := fAll _ _ rfl rfl
        rw [if_pos (show C.1 < 0 by omega), if_neg q2, s1, bd_some]
        exact fin rfl (by omega) s2 s3
  rw [if_neg (show ¬ (op : Int) = 13 by omega), if_neg o13]
  have orE : (op = 14 ∨ op = 15) → ∃ S'', ja_X13_numbers_L312 nk_big 121 P A.1 A.2 C.1 C.2 0 T = some (bi (some (kOr dn up A C)).isSome, S'') ∧ nFr S S'' ∧ S''.1 121 39 = rzN op C (S.1 121 39) ∧ S''.1 121 40 = S.1 121 40 ∧ ∀ r, some (kOr dn up A C) = some r → rRw S'' (12 + h - 1) (qUp u (12 + h - 2) (wR r)) := fun ho => by
    obtain ⟨bm, hbm⟩ := big_ge 40 (by decide)
    have := r_orL (P := P) (S := T) iA iC 31 0 nk_big (by omega) (by omega) (Or.inl rfl)
    rw [show (((2 : Nat) ^ 0 : Nat) : Int) - 1 = 0 by decide] at this
    rw [this]
    unfold kOr ja_X13_numbers_b365
    obtain ⟨S1, s1, s2, s3⟩ := fAll _ _ rfl rfl
    by_cases q1 : A.1 < 0
    · rw [if_pos q1, if_pos (Or.inl q1), s1, bd_some]
      exact fin rfl (by omega) s2 s3
    rw [if_neg q1]
    by_cases q2 : C.1 < 0
    · rw [if_pos q2, if_pos (Or.inr q2), s1, bd_some]
      exact fin rfl (by omega) s2 s3
    rw [if_neg q2, if_neg (show ¬ (A.1 < 0 ∨ C.1 < 0) by omega)]
    obtain ⟨S', s1, s2, s3⟩ := r_lv hP hT hT2 hn (t := 12 + h - 2) (by omega) rT (kUp_0 (max A.2 C.2))
    rw [s1, bd_some]
    exact fin rfl (by omega) s2 s3
  by_cases o14 : op = 14
  · rw [if_pos (show (op : Int) = 14 by omega), if_pos (Or.inl o14)]
    exact orE (Or.inl o14)
  rw [if_neg (show ¬ (op : Int) = 14 by omega)]
  by_cases o15 : op = 15
  · rw [if_pos (show (op : Int) = 15 by omega), if_pos (Or.inr o15)]
    exact orE (Or.inr o15)
  clear orE
  rw [if_neg (show ¬ (op : Int) = 15 by omega), if_neg (show ¬ (op = 14 ∨ op = 15) by omega)]
  have ek : ∀ _ : Unit, nk_w (C.1 % 32) = (((C.1 % 32).toNat : Nat) : Int) := fun _ => by rw [nk_w_id (by omega) (by omega)]; omega
  have epw : kPw C.1 = ((2 ^ (C.1 % 32).toNat : Nat) : Int) := rfl
  rw [land31, ek (), lshl_p _ (by omega), ← epw]
  by_cases o16 : op = 16
  · rw [if_pos (show (op : Int) = 16 by omega), if_pos o16, lt_eq]
    unfold kShl
    by_cases q : C.1 = C.2
    · have hk := kPw_b C.1
      obtain ⟨S', s1, s2, s3⟩ := r_product hP hT hT2 hn (t := 12 + h - 2) (by omega) rT iA (l := kPw C.1) (h := kPw C.1) (by omega) (by omega)
      rw [if_pos q, if_pos q, s1, bd_some]
      exact fin rfl (by omega) s2 s3
    · obtain ⟨S', s1, s2, s3⟩ := fAll _ _ rfl rfl
      rw [if_neg q, if_neg q, s1, bd_some]
      exact fin rfl (by omega) s2 s3
  rw [if_neg (show ¬ (op : Int) = 16 by omega), if_neg o16]
  unfold kShr
  by_cases q : C.1 = C.2
  · have := kShr_n (c := C) lA
    obtain ⟨S', s1, s2, s3⟩ := r_lv hP hT hT2 hn (t := 12 + h - 2) (by omega) rT (show A.1 / kPw C.1 ≤ A.2 / kPw C.1 from kShr_n lA)
    rw [if_pos q, if_pos q, lshr_e (by unfold lR; omega) (by omega), lshr_e (by unfold lR; omega) (by omega), ← epw, s1, bd_some]
    exact fin rfl (by omega) s2 s3
  · obtain ⟨S', s1, s2, s3⟩ := r_lv hP hT hT2 hn (t := 12 + h - 2) (by omega) rT (show min A.1 0 ≤ max A.2 (-1) by omega)
    rw [if_neg q, if_neg q, mnL', bd_some, mxL, bd_some, s1, bd_some]
    exact fin rfl (by omega) s2 s3
theorem r_neg (hP : P = 122 ∨ P = 168) (hT : thG F dn up) (ht : rTn S P n F) (hn : n ≤ 3079) {h : Nat} {u : jQ} (h8 : h ≤ 8) (h1 : 1 ≤ h) (ra : rOk F (u (12 + h - 1)).2.1) (hr : rRw S (12 + h) u) : ∃ S', ja_X13_numbers 121 P 18 S = some (1, S') ∧ uFr S S' ∧ rRw S' (12 + h) (qUp u (12 + h - 1) (wR (kNeg dn up (u (12 + h - 1)).2.1))) := by
  have e1 : ∀ _ : Unit, nk_w (((12 + h : Nat) : Int) - 1) = ((12 + h - 1 : Nat) : Int) := fun _ => top_w (d := 1) h8 (by omega)
  obtain ⟨T, hT0⟩ : ∃ T, T = nk_wi S 121 25 ((12 + h - 1 : Nat) : Int) := ⟨_, rfl⟩
  have fT : uFr S T := by rw [hT0]; exact uFr_25
  have xT : rX T (12 + h) u := by rw [hT0]; exact rX_25 hr.2
  have t25 : T.1 121 25 = ((12 + h - 1 : Nat) : Int) := by rw [hT0, wi_at, if_pos rfl]
  have rT : rRw T (12 + h - 1) u := ⟨t25, rX_w xT (by omega) (fun _ _ => rfl)⟩
  have hT2 : rTn T P n F := rTn_c (fun a h1 h2 => fT.2.1 a (by omega) h2) hP ht
  have iA := rOk_iR hT ra
  have lA := ra.2.2
  have a1 : T.1 230 (12 + h - 1) = (u (12 + h - 1)).2.1.1 := (xT (12 + h - 1) (by omega)).2.1
  have a2 : T.1 231 (12 + h - 1) = (u (12 + h - 1)).2.1.2 := (xT (12 + h - 1) (by omega)).2.2.1
  unfold iR2 iR at iA
  unfold ja_X13_numbers
  rw [if_pos rfl, hr.1, e1 (), lt_eq, ← hT0, t25, if_pos (in_i (N := 24) (by omega)), jc_121_27, jc_121_28, Int.toNat_natCast, a1, a2, lt_eq, W_id (by unfold lR; omega), W_id (by unfold lR; omega)]
  obtain ⟨S', s1, s2, s3⟩ := r_lv hP hT hT2 hn (t := 12 + h - 1) (by omega) rT (show -(u (12 + h - 1)).2.1.2 ≤ -(u (12 + h - 1)).2.1.1 by omega)
  rw [s1, bd_some]
  rw [show 12 + h - 1 + 1 = 12 + h by omega] at s3
  exact ⟨S', rfl, uFr_trans fT s2, s3⟩
end RNB
