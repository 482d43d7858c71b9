/-! The class goes the ways of comparisons. -/
section CWW
variable {F : Int → Prop} {dn up : Int → Int} {S : nk_S} {Q : Nat} {p : jP} {H lc : Nat → Nat} {A : jA} {W : Nat → Bool} {us : List Int} {z : jL} {t : Nat → Int} {u : jQ} {i j : Nat} {x : jC}
theorem rel_top {l h n : Nat} (hn : n < h) (h8 : h ≤ 8) : rel l h (12 + h - 1 - n) ∧ 12 + h - 1 - n < 20 := by unfold rel; omega
theorem gOut_d (hQ : Q = 13 ∨ Q = 49) (hT : thG F dn up) (hv : cPv S Q p H lc) (hz : oJL p.2.2.2.2.1) (hj : j < p.2.2.2.2.1.1.length) (hA : cAm H lc S A) (hAw : aWf F H lc A) (hWt : cWt S W) {l h n : Nat} (hl : lc j = l) (hh : H j = h - n) (hn : n ≤ h) (h8 : h ≤ 8) {S2 : nk_S} (hf : wFr S S2) {v : jQ} (hw : ∀ k, wOk F (v k)) (hr : cRw l h S2 v) : ∃ S', (nk_bd (ja_X7_drop 93 (n : Int) S2) fun _ S9 => nk_bd (ja_X4_goOn 92 (j : Int) S9) fun _ S12 => some (0, S12)) = some (0, S') ∧ gOut H lc A W S S' (some v) j := by
  obtain ⟨S3, s1, s2, s3⟩ := c_drop hr hn h8
  have f3 := wFr_trans hf s2
  obtain ⟨S4, g1, g2⟩ := c_goOn hQ hT (cPv_w hQ f3 hv) hz hj (cAm_w f3 hA) hAw (cWt_w f3 hWt) hw (by rw [hl, hh]; exact s3)
  exact ⟨S4, by rw [s1, bd_some, g1, bd_some], gOut_w f3 g2⟩
theorem bi_some {o : Option jQ} {v : jQ} (h : o = some v) : ¬ bi o.isSome = 0 := by rw [h]; exact (show ¬ bi true = 0 by decide)
theorem c_b123 (hQ : Q = 13 ∨ Q = 49) (hT : thG F dn up) (hv : cPv S Q p H lc) (hz : oJL p.2.2.2.2.1) (hj : j < p.2.2.2.2.1.1.length) (hA : cAm H lc S A) (hAw : aWf F H lc A) (hWt : cWt S W) {l h : Nat} (hl : lc j = l) (hh : H j = h - 2) (hn : 2 ≤ h) (h8 : h ≤ 8) {o : Option jQ} {S2 : nk_S} (hf : wFr S S2) (ho : ∀ v, o = some v → cRw l h S2 v ∧ vOk F us z l t v ∧ (v (12 + h - 1)).1 = 1 ∧ (v (12 + h - 2)).1 = 1) : ∃ S', ja_X4_lookAtWay_b123 92 (j : Int) ((12 + h - 1 : Nat) : Int) ((12 + h - 2 : Nat) : Int) (bi o.isSome) S2 = some (0, S') ∧ gOut H lc A W S S' (oB o fun v => oB (qPs v (12 + h - 2)) fun v => qPs v (12 + h - 1)) j := by
  have r1 : rel l h (12 + h - 1) ∧ 12 + h - 1 < 20 := rel_top (n := 0) (by omega) h8
  have r2 : rel l h (12 + h - 2) ∧ 12 + h - 2 < 20 := by
    have := rel_top (l := l) (n := 1) (show 1 < h by omega) h8
    rw [show 12 + h - 1 - 1 = 12 + h - 2 by omega] at this
    exact this
  unfold ja_X4_lookAtWay_b123
  cases ho' : o with
  | none =>
    rw [if_pos (show bi (none : Option jQ).isSome = 0 from rfl)]
    exact ⟨S2, rfl, gOut_n hf hA hWt⟩
  | some v =>
    obtain ⟨o1, o2, o3, o4⟩ := ho v ho'
    rw [if_neg (bi_some rfl)]
    obtain ⟨S3, s1, s2, s3⟩ := c_pass hT o1 o2.1 o2.2.1 r2 o4
    have f3 := wFr_trans hf s2
    rw [s1, bd_some]
    show ∃ S', _ ∧ gOut H lc A W S S' (oB (qPs v (12 + h - 2)) fun v => qPs v (12 + h - 1)) j
    cases hp : qPs v (12 + h - 2) with
    | none =>
      rw [if_pos (show bi (none : Option jQ).isSome = 0 from rfl)]
      exact ⟨S3, rfl, gOut_n f3 hA hWt⟩
    | some v2 =>
      rw [if_neg (bi_some rfl)]
      have ok2 := qPs_ok o2 o4 hp
      obtain ⟨S4, q1, q2, q3⟩ := c_pass hT (s3 v2 hp) ok2.1 ok2.2.1 r1 (by rw [((qNr_at o2.2.1 hp).2 _).1]; exact o3)
      have f4 := wFr_trans f3 q2
      rw [q1, bd_some]
      show ∃ S', _ ∧ gOut H lc A W S S' (qPs v2 (12 + h - 1)) j
      cases hp2 : qPs v2 (12 + h - 1) with
      | none =>
        rw [if_pos (show bi (none : Option jQ).isSome = 0 from rfl)]
        exact ⟨S4, rfl, gOut_n f4 hA hWt⟩
      | some v3 =>
        rw [if_neg (bi_some rfl)]
        have ok3 := qPs_ok ok2 (by rw [((qNr_at o2.2.1 hp).2 _).1]; exact o3) hp2
        exact gOut_d hQ hT hv hz hj hA hAw hWt (n := 2) hl hh hn h8 f4 ok3.1 (q3 v3 hp2)
theorem c_way (hQ : Q = 13 ∨ Q = 49) (hT : thG F dn up) (hF : F = fun y => th7 y ∨ ∃ x ∈ p.2.2.2.2.1.2.2.2, nbr x y) (hv : cPv S Q p H lc) (hz : oJL p.2.2.2.2.1) (hx : p.2.2.2.2.1.1[i]? = some x) (hb : x.2.2.2.1 < 48) (hA : cAm H lc S A) (hAw : aWf F H lc A) (hWt : cWt S W) (hu : A i = some u) (hok : vOk F us z (lc i) t u) {rl : Nat} (hrl : 20 ≤ rl ∧ rl ≤ 25) (k1 : (u (12 + H i - 1)).1 = 1) (k2 : (u (12 + H i - 2)).1 = 1) (h2 : 2 ≤ H i) (hj : j < p.2.2.2.2.1.1.length) (hl : lc j = lc i) (hh : H j = H i - 2) : ∃ S', ja_X4_lookAtWay 92 (i : Int) (j : Int) (rl : Int) S = some (0, S') ∧ gOut H lc A W S S' (pWy dn up rl u (H i)) j := by
  have h8 := (hv.2.2.2.2 i).2
  obtain ⟨S1, b1, b2, b3⟩ := c_bring hQ hv hz hx hb hA hu
  have v1 := cPv_w hQ b2 hv
  obtain ⟨n, n1, n2⟩ := cPv_t v1 hz
  rw [← hF] at n2
  have hR : Q + 23 = 36 ∨ Q + 23 = 72 := by omega
  have t1 := c_top b3 (n := 0) (by omega) h8
  have r1 : rel (lc i) (H i) (12 + H i - 1) ∧ 12 + H i - 1 < 20 := rel_top (n := 0) (by omega) h8
  have r2 : rel (lc i) (H i) (12 + H i - 2) ∧ 12 + H i - 2 < 20 := by
    have := rel_top (l := lc i) (n := 1) (show 1 < H i by omega) h8
    rw [show 12 + H i - 1 - 1 = 12 + H i - 2 by omega] at this
    exact this
  have e2 : nk_w (((12 + H i - 1 : Nat) : Int) - 1) = ((12 + H i - 2 : Nat) : Int) := by
    rw [show ((12 + H i - 1 : Nat) : Int) - 1 = ((12 + H i - 1 : Nat) : Int) - ((1 : Nat) : Int) by omega, wisub (by omega) (by omega)]
    congr 1
  have hb3 : ∀ (o : Option jQ), (∀ v, o = some v → vOk F us z (lc i) t v ∧ ∀ k, (v k).1 = (u k).1) → ∀ S2, wFr S1 S2 → (∀ v, o = some v → cRw (lc i) (H i) S2 v) → ∃ S', ja_X4_lookAtWay_b123 92 (j : Int) ((12 + H i - 1 : Nat) : Int) ((12 + H i - 2 : Nat) : Int) (bi o.isSome) S2 = some (0, S') ∧ gOut H lc A W S S' (oB o fun v => oB (qPs v (12 + H i - 2)) fun v => qPs v (12 + H i - 1)) j := fun o ho S2 hf hr => c_b123 hQ hT hv hz hj hA hAw hWt hl hh h2 h8 (wFr_trans b2 hf) (fun v q => ⟨hr v q, (ho v q).1, by rw [(ho v q).2]; exact k1, by rw [(ho v q).2]; exact k2⟩)
  have e0 : ja_X4_lookAtWay 92 (i : Int) (j : Int) (rl : Int) S = (if (rl : Int) = 20 then nk_bd (ja_X4_makeEqual 92 ((12 + H i - 2 : Nat) : Int) ((12 + H i - 1 : Nat) : Int) S1) fun r10 S11 => ja_X4_lookAtWay_b123 92 (j : Int) ((12 + H i - 1 : Nat) : Int) ((12 + H i - 2 : Nat) : Int) r10 S11 else if (rl : Int) = 21 then nk_bd (ja_X4_makeDifferent 92 ((12 + H i - 2 : Nat) : Int) ((12 + H i - 1 : Nat) : Int) S1) fun r13 S14 => ja_X4_lookAtWay_b123 92 (j : Int) ((12 + H i - 1 : Nat) : Int) ((12 + H i - 2 : Nat) : Int) r13 S14 else if (rl : Int) = 22 then ja_X4_lookAtWay_b78 92 (j : Int) (rl : Int) ((12 + H i - 1 : Nat) : Int) ((12 + H i - 2 : Nat) : Int) S1 else if (rl : Int) = 23 then ja_X4_lookAtWay_b78 92 (j : Int) (rl : Int) ((12 + H i - 1 : Nat) : Int) ((12 + H i - 2 : Nat) : Int) S1 else if (rl : Int) = 24 then ja_X4_lookAtWay_b118 92 (j : Int) ((12 + H i - 1 : Nat) : Int) ((12 + H i - 2 : Nat) : Int) 92 ((12 + H i - 1 : Nat) : Int) ((12 + H i - 2 : Nat) : Int) 1 S1 else ja_X4_lookAtWay_b118 92 (j : Int) ((12 + H i - 1 : Nat) : Int) ((12 + H i - 2 : Nat) : Int) 92 ((12 + H i - 1 : Nat) : Int) ((12 + H i - 2 : Nat) : Int) 0 S1) := by
    unfold ja_X4_lookAtWay
    rw [b1, bd_some, jc_92_2]
    have t1' : ja_X7_fromTop 93 0 S1 = some (((12 + H i - 1 : Nat) : Int), S1) := t1
    rw [t1', bd_some, lt_eq, e2]
  clear e2 t1
  rw [e0]
  clear e0
  unfold pWy
  rw [if_pos hrl.2]
  by_cases c20 : rl = 20
  · rw [if_pos (show (rl : Int) = 20 by omega), if_pos c20]
    obtain ⟨S2, s1, s2, s3⟩ := c_mkEq hT b3 hok.1 r2 r1 (by omega) k2 k1
    rw [s1, bd_some]
    exact hb3 _ (fun v q => ⟨pEq_ok hok k2 k1 q, (pEq_k q).1⟩) S2 s2 s3
  rw [if_neg (show ¬ (rl : Int) = 20 by omega), if_neg c20]
  by_cases c21 : rl = 21
  · rw [if_pos (show (rl : Int) = 21 by omega), if_pos c21]
    obtain ⟨S2, s1, s2, s3⟩ := c_mkNe hR hT n2 n1 v1.2.1 b3 hok.1 r2 r1 (by omega) k2 k1
    rw [s1, bd_some]
    exact hb3 _ (fun v q => ⟨pNe_ok hT hok k2 k1 q, (pNe_k q).1⟩) S2 s2 s3
  rw [if_neg (show ¬ (rl : Int) = 21 by omega), if_neg c21]
  by_cases c22 : rl = 22
  · rw [if_pos (show (rl : Int) = 22 by omega), if_pos c22]
    obtain ⟨S2, s1, s2, s3⟩ := c_mkOrd hR hT n2 n1 v1.2.1 b3 hok.1 r2 r1 (by omega) k2 k1 true
    unfold ja_X4_lookAtWay_b78 ja_X4_lookAtWay_b94
    rw [if_pos (show (rl : Int) = 22 by omega), show (1 : Int) = bi true from rfl, s1, bd_some]
    exact hb3 _ (fun v q => ⟨pOrd_ok hT hok k2 k1 q, (pOrd_k q).1⟩) S2 s2 s3
  rw [if_neg (show ¬ (rl : Int) = 22 by omega), if_neg c22]
  by_cases c23 : rl = 23
  · rw [if_pos (show (rl : Int) = 23 by omega), if_pos c23]
    obtain ⟨S2, s1, s2, s3⟩ := c_mkOrd hR hT n2 n1 v1.2.1 b3 hok.1 r2 r1 (by omega) k2 k1 false
    unfold ja_X4_lookAtWay_b78 ja_X4_lookAtWay_b94
    rw [if_neg (show ¬ (rl : Int) = 22 by omega)]
    have s1' : ja_X4_makeOrdered 92 ((12 + H i - 2 : Nat) : Int) ((12 + H i - 1 : Nat) : Int) 0 S1 = _ := s1
    rw [s1', bd_some]
    exact hb3 _ (fun v q => ⟨pOrd_ok hT hok k2 k1 q, (pOrd_k q).1⟩) S2 s2 s3
  rw [if_neg (show ¬ (rl : Int) = 23 by omega), if_neg c23]
  by_cases c24 : rl = 24
  · rw [if_pos (show (rl : Int) = 24 by omega), if_pos c24]
    obtain ⟨S2, s1, s2, s3⟩ := c_mkOrd hR hT n2 n1 v1.2.1 b3 hok.1 r1 r2 (by omega) k1 k2 true
    unfold ja_X4_lookAtWay_b118
    have s1' : ja_X4_makeOrdered 92 ((12 + H i - 1 : Nat) : Int) ((12 + H i - 2 : Nat) : Int) 1 S1 = _ := s1
    rw [s1', bd_some]
    exact hb3 _ (fun v q => ⟨pOrd_ok hT hok k1 k2 q, (pOrd_k q).1⟩) S2 s2 s3
  rw [if_neg (show ¬ (rl : Int) = 24 by omega), if_neg c24]
  obtain ⟨S2, s1, s2, s3⟩ := c_mkOrd hR hT n2 n1 v1.2.1 b3 hok.1 r1 r2 (by omega) k1 k2 false
  unfold ja_X4_lookAtWay_b118
  have s1' : ja_X4_makeOrdered 92 ((12 + H i - 1 : Nat) : Int) ((12 + H i - 2 : Nat) : Int) 0 S1 = _ := s1
  rw [s1', bd_some]
  exact hb3 _ (fun v q => ⟨pOrd_ok hT hok k1 k2 q, (pOrd_k q).1⟩) S2 s2 s3
theorem c_nullW (hQ : Q = 13 ∨ Q = 49) (hT : thG F dn up) (hv : cPv S Q p H lc) (hz : oJL p.2.2.2.2.1) (hx : p.2.2.2.2.1.1[i]? = some x) (hb : x.2.2.2.1 < 48) (hA : cAm H lc S A) (hAw : aWf F H lc A) (hWt : cWt S W) (hu : A i = some u) (hok : vOk F us z (lc i) t u) (nl : Bool) (k1 : (u (12 + H i - 1)).1 = 2) (h1 : 1 ≤ H i) (hj : j < p.2.2.2.2.1.1.length) (hl : lc j = lc i) (hh : H j = H i - 1) : ∃ S', ja_X4_lookAtNullWay 92 (i : Int) (j : Int) (bi nl) S = some (0, S') ∧ gOut H lc A W S S' (pWy dn up (if nl = true then 26 else 27) u (H i)) j := by
  have h8 := (hv.2.2.2.2 i).2
  obtain ⟨S1, b1, b2, b3⟩ := c_bring hQ hv hz hx hb hA hu
  have t1 : ja_X7_fromTop 93 0 S1 = some (((12 + H i - 1 : Nat) : Int), S1) := c_top b3 (n := 0) (by omega) h8
  have r1 : rel (lc i) (H i) (12 + H i - 1) ∧ 12 + H i - 1 < 20 := rel_top (n := 0) (by omega) h8
  obtain ⟨K, hK⟩ : ∃ K : Nat → Bool, K = if nl = true then onS 62 else sAl := ⟨_, rfl⟩
  obtain ⟨m, hm⟩ : ∃ m : Int, m = if nl = true then 4611686018427387904 else 18014398509481983 := ⟨_, rfl⟩
  have hmK : cV m K := by
    rw [hm, hK]
    cases nl
    · exact ⟨by unfold lR; decide, lk_al⟩
    · exact ⟨by unfold lR; decide, lk_62⟩
  have e0 : ja_X4_lookAtNullWay 92 (i : Int) (j : Int) (bi nl) S = ja_X4_lookAtNullWay_b28 92 (j : Int) ((12 + H i - 1 : Nat) : Int) m S1 := by
    unfold ja_X4_lookAtNullWay
    rw [b1, bd_some, jc_92_2, t1, bd_some, hm]
    cases nl
    · rw [if_pos (show bi false = 0 from rfl)]; rfl
    · rw [if_neg (show ¬ bi true = 0 by decide)]; rfl
  have ep : pWy dn up (if nl = true then 26 else 27) u (H i) = if sEx (sAnd (u (12 + H i - 1)).2.2.1 K) = true then qKp u (12 + H i - 1) K else none := by
    rw [hK]
    cases nl <;> rfl
  rw [e0, ep]
  have st := b3.2.2 _ r1.1
  have hand := cV_and (st.2.2.2 k1) hmK
  have hz' := st_z (s := K) (hok.1 _) k1 hand
  unfold ja_X4_lookAtNullWay_b28
  rw [if_pos (in_i (N := 20) (by omega)), jc_92_2, jc_93_4, Int.toNat_natCast]
  by_cases c : sEx (sAnd (u (12 + H i - 1)).2.2.1 K) = true
  · rw [if_neg (fun q => by rw [hz'.mp q] at c; cases c), if_pos c]
    obtain ⟨S2, s1, s2, s3⟩ := c_keep b3 hok.1 hok.2.1 r1.1 k1 r1.2 hmK
    have f2 := wFr_trans b2 s2
    rw [s1, bd_some]
    cases hp : qKp u (12 + H i - 1) K with
    | none =>
      rw [if_pos (show bi (none : Option jQ).isSome = 0 from rfl)]
      exact ⟨S2, rfl, gOut_n f2 hA hWt⟩
    | some v =>
      rw [if_neg (bi_some rfl)]
      exact gOut_d hQ hT hv hz hj hA hAw hWt (n := 1) hl hh h1 h8 f2 (qKp_ok hok k1 hp).1 (s3 v hp)
  · have cf : sEx (sAnd (u (12 + H i - 1)).2.2.1 K) = false := by cases q : sEx (sAnd (u (12 + H i - 1)).2.2.1 K) <;> simp_all
    rw [if_pos (hz'.mpr cf), if_neg c]
    exact ⟨S1, rfl, gOut_n b2 hA hWt⟩
theorem c_sameW (hQ : Q = 13 ∨ Q = 49) (hT : thG F dn up) (hv : cPv S Q p H lc) (hz : oJL p.2.2.2.2.1) (hx : p.2.2.2.2.1.1[i]? = some x) (hb : x.2.2.2.1 < 48) (hA : cAm H lc S A) (hAw : aWf F H lc A) (hWt : cWt S W) (hu : A i = some u) (hok : vOk F us z (lc i) t u) (sm : Bool) (k1 : (u (12 + H i - 1)).1 = 2) (k2 : (u (12 + H i - 2)).1 = 2) (h2 : 2 ≤ H i) (hj : j < p.2.2.2.2.1.1.length) (hl : lc j = lc i) (hh : H j = H i - 2) : ∃ S', ja_X4_lookAtSameWay 92 (i : Int) (j : Int) (bi sm) S = some (0, S') ∧ gOut H lc A W S S' (pWy dn up (if sm = true then 28 else 29) u (H i)) j := by
  have h8 := (hv.2.2.2.2 i).2
  obtain ⟨S1, b1, b2, b3⟩ := c_bring hQ hv hz hx hb hA hu
  have t1 : ja_X7_fromTop 93 0 S1 = some (((12 + H i - 1 : Nat) : Int), S1) := c_top b3 (n := 0) (by omega) h8
  have r1 : rel (lc i) (H i) (12 + H i - 1) ∧ 12 + H i - 1 < 20 := rel_top (n := 0) (by omega) h8
  have r2 : rel (lc i) (H i) (12 + H i - 2) ∧ 12 + H i - 2 < 20 := by
    have := rel_top (l := lc i) (n := 1) (show 1 < H i by omega) h8
    rw [show 12 + H i - 1 - 1 = 12 + H i - 2 by omega] at this
    exact this
  have e2 : nk_w (((12 + H i - 1 : Nat) : Int) - 1) = ((12 + H i - 2 : Nat) : Int) := by
    rw [show ((12 + H i - 1 : Nat) : Int) - 1 = ((12 + H i - 1 : Nat) : Int) - ((1 : Nat) : Int) by omega, wisub (by omega) (by omega)]
    congr 1
  unfold ja_X4_lookAtSameWay
  rw [b1, bd_some, jc_92_2, t1, bd_some, lt_eq, e2]
  clear e2
  rw [if_pos (in_i (N := 20) (by omega)), if_pos (in_i (N := 20) (by omega)), lt_eq, jc_93_4, Int.toNat_natCast, Int.toNat_natCast]
  cases sm with
  | false =>
    rw [if_pos (show bi false = 0 from rfl)]
    unfold ja_X4_lookAtSameWay_b83
    rw [jc_92_2]
    exact gOut_d hQ hT hv hz hj hA hAw hWt (n := 2) hl hh h2 h8 b2 hok.1 b3
  | true =>
    rw [if_neg (show ¬ bi true = 0 by decide)]
    have st1 := b3.2.2 _ r1.1
    have st2 := b3.2.2 _ r2.1
    have hand := cV_and (st2.2.2.2 k2) (st1.2.2.2 k1)
    obtain ⟨K, hK⟩ : ∃ K, K = sAnd (u (12 + H i - 2)).2.2.1 (u (12 + H i - 1)).2.2.1 := ⟨_, rfl⟩
    have hz' := st_z (s := (u (12 + H i - 1)).2.2.1) (hok.1 _) k2 hand
    have ep : pWy dn up (if true = true then 28 else 29) u (H i) = if sEx K = true then oB (qKp u (12 + H i - 2) K) fun v => qKp v (12 + H i - 1) K else none := by rw [hK]; rfl
    rw [ep]
    rw [← hK] at hz' hand
    by_cases c : sEx K = true
    · rw [if_neg (fun q => by rw [hz'.mp q] at c; cases c), if_pos c]
      obtain ⟨S2, s1, s2, s3⟩ := c_keep b3 hok.1 hok.2.1 r2.1 k2 r2.2 hand
      have f2 := wFr_trans b2 s2
      rw [s1, bd_some]
      cases hp : qKp u (12 + H i - 2) K with
      | none =>
        rw [if_pos (show bi (none : Option jQ).isSome = 0 from rfl)]
        exact ⟨S2, rfl, gOut_n f2 hA hWt⟩
      | some v =>
        rw [if_neg (bi_some rfl)]
        have ok2 := qKp_ok hok k2 hp
        have kk : (v (12 + H i - 1)).1 = 2 := by rw [((qKp_at hok.2.1 hp).2 _).1]; exact k1
        obtain ⟨S3, q1, q2, q3⟩ := c_keep (s3 v hp) ok2.1 ok2.2.1 r1.1 kk r1.2 hand
        have f3 := wFr_trans f2 q2
        rw [q1, bd_some]
        show ∃ S', _ ∧ gOut H lc A W S S' (qKp v (12 + H i - 1) K) j
        cases hp2 : qKp v (12 + H i - 1) K with
        | none =>
          rw [if_pos (show bi (none : Option jQ).isSome = 0 from rfl)]
          exact ⟨S3, rfl, gOut_n f3 hA hWt⟩
        | some v3 =>
          rw [if_neg (bi_some rfl)]
          unfold ja_X4_lookAtSameWay_b83
          rw [jc_92_2]
          exact gOut_d hQ hT hv hz hj hA hAw hWt (n := 2) hl hh h2 h8 f3 (qKp_ok ok2 kk hp2).1 (q3 v3 hp2)
    · have cf : sEx K = false := by cases q : sEx K <;> simp_all
      rw [if_pos (hz'.mpr cf), if_neg c]
      exact ⟨S1, rfl, gOut_n b2 hA hWt⟩
end CWW
