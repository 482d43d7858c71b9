/-! Lines: the reference's instructions. -/
section MCG
variable {tx : List (List Int)} {P : Nat} {ns : List (List Int)} {us : List Int} {fl : List (List Int × Nat × Int)} {bl : List jB} {ls : List (List Int × Nat × Nat)} {en b : Nat} {lc : Int}
theorem m_it {S : nk_S} (hM : MW S tx) (c : Nat) (hc : c < 2000000) : ja_X13_is 121 (c : Int) 35 S = some (bi (fW tx 52 c), S) := m_W0 hM ok_t.2.2.2.2.2.2.2.2.2.2.2.2.2.2.1 tx_t.2.2.2.2.2.2.2.2.2.2.2.2.1 c hc
theorem psh_n {o a b : Nat} {x y : Int} {cl : List jC} {sl : List Int} {kl : List (Nat × Nat × Nat × Nat × Nat)} {nl : List Int} (h : ¬ (o = 30 ∨ o = 31)) : psh b o a x y (cl, sl, kl, nl) = (cl ++ [(o, x, y, b, a)], sl, kl, nl ++ nTh o x y) := by
  unfold psh sTy
  rw [if_neg h, if_neg (fun e => h (Or.inl e)), if_neg (fun e => h (Or.inr e)), List.append_nil]
theorem nTh_n {o : Nat} {x y : Int} (h0 : o ≠ 0) (h4 : o ≠ 4) : nTh o x y = [] := by unfold nTh; rw [if_neg h0, if_neg h4]
theorem m_c46 (hP : P = 122 ∨ P = 168) {S : nk_S} (hV : rVm S tx P ns us fl bl) (hu : uOk us) (hO : fOk us fl) (hOb : bOk us bl) {cl : List jC} {sl : List Int} {kl : List (Nat × Nat × Nat × Nat × Nat)} {nl : List Int} (hZ : rJL S P (cl, sl, kl, nl)) (hL : rLs S tx ls) (hb : b < 48) (hlc : S.1 (P + 11) b = lc) (hcl : cl.length < 1024) {o a : Nat} (hsl : (o = 30 ∨ o = 31) → sl.length < 48) (hnl : nl.length ≤ cl.length) (h46 : o < 46) (hf : (fOp tx (fK o) (a + 1)).1 = true) (ha : a < 100000) : ∃ S', rK P S S' ∧ (match oX tx ns us fl bl ls en lc o (a + 1) with
    | none => ja_X13_code_b46 121 P (b : Int) (a : Int) (en : Int) (o : Int) S = some (0, S') ∧ S'.1 121 12 = ((a + 1 : Nat) : Int)
    | some q => ja_X13_code_b46 121 P (b : Int) (a : Int) (en : Int) (o : Int) S = some (1, S') ∧ rJL S' P (psh b o a q.1 q.2 (cl, sl, kl, nl))) := by
  have hV0 := hV
  obtain ⟨hM, hC, hF, hB⟩ := hV
  have hns := hC.2.1
  obtain ⟨fk1, fk2⟩ := fKv o h46
  obtain ⟨m30, m31, m0, m4⟩ := fKmk o h46
  have m37 := fK_37 o h46
  have hk8 := fK8 o h46
  obtain ⟨T, hT⟩ : ∃ T, T = mT P S cl.length o a b := ⟨_, rfl⟩
  have KT : rK P S T := by rw [hT]; exact rK_T hP
  have VT := rVm_K hP KT hV0
  have LT := rLs_K hP KT hL
  obtain ⟨hMT, hCT, hFT, hBT⟩ := VT
  obtain ⟨v1, v2, v3, v4, v5, v6, v7⟩ := mT_v (S := S) (n := cl.length) (o := o) (a := a) (b := b) hP
  rw [← hT] at v1 v2 v3 v4 v5 v6 v7
  have tlc : T.1 (P + 11) b = lc := by rw [KT.2.1 (P + 11) (by omega) (by omega) (by omega) (by omega) (by omega)]; exact hlc
  have hz3 : S.1 P 3 = (cl.length : Int) := hZ.1.1
  have hin : (0 : Int) ≤ (cl.length : Int) ∧ (cl.length : Int) < 1024 := in_i (N := 1024) (by omega)
  obtain ⟨n, hn⟩ : ∃ n, n = cl.length := ⟨_, rfl⟩
  have e1 : ∃ R : Int → nk_S → Option (Int × nk_S), ja_X13_code_b46 121 P (b : Int) (a : Int) (en : Int) (o : Int) S = nk_bd (ja_J0_charAt_5068e 33 (o : Int) T) R ∧ R = fun r21 S22 => if r21 = 67 then ja_X13_code_b336 121 P (a : Int) (o : Int) (n : Int) S22 else if r21 = 68 then some (1, S22) else if r21 = 69 then ja_X13_code_b336 121 P (a : Int) (o : Int) (n : Int) S22 else if r21 = 70 then nk_bd (ja_X13_reference 121 P (n : Int) (o : Int) ((a + 1 : Nat) : Int) S22) fun r24 S25 => if r24 = 0 ∨ r24 = 1 then some (r24, S25) else none else if r21 = 71 then some (1, S22) else if r21 = 72 then some (1, S22) else if r21 = 73 then nk_bd (ja_X13_localStep 121 P (b : Int) (n : Int) ((a + 1 : Nat) : Int) S22) fun r28 S29 => if r28 = 0 then some (0, S29) else nk_bd (ja_X13_number 121 ((a + 2 : Nat) : Int) S29) fun r31 S32 => nk_lt (nk_wi S32 (P + 17) n (nk_w r31)) fun S34 => nk_bd (ja_X13_thresholds 121 P (S34.1 (P + 17) n) S34) fun r36 S37 => some (1, S37) else if r21 = 74 then some (1, S22) else if r21 = 75 then nk_bd (ja_X13_localStep 121 P (b : Int) (n : Int) ((a + 1 : Nat) : Int) S22) fun r39 S40 => if r39 = 0 ∨ r39 = 1 then some (r39, S40) else none else if r21 = 76 then nk_bd (ja_X13_labelAt 121 ((a + 1 : Nat) : Int) S22) fun r43 S44 => nk_lt (nk_wi S44 (P + 16) n r43) fun S46 => if (S46.1 (P + 16) n) < 0 then ja_X13_code_b320 121 (a : Int) S46 else if (S46.1 (P + 16) n) < (en : Int) then some (1, S46) else ja_X13_code_b320 121 (a : Int) S46 else if r21 = 77 then some (1, S22) else if r21 = 78 then nk_bd (ja_X13_number 121 ((a + 1 : Nat) : Int) S22) fun r48 S49 => nk_lt (nk_wi S49 (P + 16) n (nk_w r48)) fun S51 => nk_bd (ja_X13_thresholds 121 P (S51.1 (P + 16) n) S51) fun r53 S54 => some (1, S54) else if r21 = 79 then some (1, S22) else if r21 = 80 then some (1, S22) else if r21 = 81 then some (1, S22) else if r21 = 82 then some (1, S22) else if r21 = 83 then some (1, S22) else if r21 = 84 then nk_bd (ja_X13_typeOf 121 P ((a + 1 : Nat) : Int) S22) fun r56 S57 => nk_lt (nk_wi S57 (P + 16) n r56) fun S59 => if 0 ≤ (S59.1 (P + 16) n) then some (1, S59) else nk_bd (ja_X13_wrong 121 ((a + 1 : Nat) : Int) S59) fun r61 S62 => if r61 = 0 then some (0, S62) else some (1, S62) else some (1, S22) := by
    refine ⟨_, ?_, rfl⟩
    unfold ja_X13_code_b46
    rw [lt_eq, hz3, if_pos hin, lt_eq, lt_eq, lt_eq, lt_eq, lt_eq, lt_eq, jc_121_20, (jcP hP 22 (by decide) : ja_c P 22 = P + 15), (jcP hP 25 (by decide) : ja_c P 25 = P + 18), (jcP hP 23 (by decide) : ja_c P 23 = P + 16), (jcP hP 24 (by decide) : ja_c P 24 = P + 17), Int.toNat_natCast, w_nat1 (show a + 1 < 2147483648 by omega), w_n2 ha]
    have h3 : (nk_wi (nk_wi (nk_wi (nk_wi (nk_wi S 224 cl.length (a : Int)) (P + (22 - 7)) cl.length (o : Int)) (P + (25 - 7)) cl.length (b : Int)) (P + (23 - 7)) cl.length 0) (P + (24 - 7)) cl.length 0).1 P 3 = (cl.length : Int) := by
      rw [wi_n (by omega), wi_n (by omega), wi_n (by omega), wi_n (by omega), wi_n (by omega)]; exact hz3
    rw [h3, w_nat1 (by omega), hn]
    unfold mT at hT
    rw [hT]
  obtain ⟨R, e1, eR⟩ := e1
  rw [e1, m_kind T h46, bd_some, eR]
  clear e1 eR
  subst hn
  have hk : fK o = 0 ∨ fK o = 1 ∨ fK o = 2 ∨ fK o = 3 ∨ fK o = 4 ∨ fK o = 5 ∨ fK o = 6 ∨ fK o = 7 ∨ fK o = 8 := by omega
  -- an instruction without a site ends
  have don : ∀ (S' : nk_S) (x y : Int) (nl' : List Int), ¬ (o = 30 ∨ o = 31) → S'.2 = S.2 → (∀ c, c ≠ P → c ≠ P + 16 → c ≠ P + 17 → c ≠ P + 26 → S'.1 c = T.1 c) → (∀ i, i ≠ 7 → S'.1 P i = T.1 P i) → (∀ c i, c = P + 16 ∨ c = P + 17 → i ≠ cl.length → S'.1 c i = S.1 c i) → S'.1 (P + 16) cl.length = rA (o, x, y, b, a) → S'.1 (P + 17) cl.length = rB2 (o, x, y, b, a) → rTh S' P nl' → nl' = nl ++ nTh o x y → rJL S' P (psh b o a x y (cl, sl, kl, nl)) ∧ rK P S S' := by
    intro S' x y nl' h0 h1 h2 h3 h4 h5 h6 h7 h8
    rw [psh_n h0, ← h8]
    rw [hT] at h2 h3
    exact m_done hP hZ h1 h2 h3 h4 h5 h6 h7
  have ti : ∀ c i, c = P + 16 ∨ c = P + 17 → i ≠ cl.length → T.1 c i = S.1 c i := fun c i hc hi => by rw [hT]; exact mT_i hP hi (by omega)
  have tTh : rTh T P nl := by
    have z4 : rTh S P nl := hZ.2.2.2
    unfold rTh rTn at z4 ⊢
    rw [hT, mT_P hP (show 7 ≠ 3 by decide), mT_n hP (show P + 26 ≠ 224 by omega) (by omega) (by omega)]
    exact z4
  have wr : ∀ A : nk_S, rK P S A → rK P S (nk_wi A 121 12 ((a + 1 : Nat) : Int)) ∧ (nk_wi A 121 12 ((a + 1 : Nat) : Int)).1 121 12 = ((a + 1 : Nat) : Int) := fun A hA => ⟨rK_trans hA (rK_w hP), by rw [wi_at, if_pos rfl]⟩
  unfold oX
  rcases hk with e | e | e | e | e | e | e | e | e
  · rw [e]
    have h30 : ¬ (o = 30 ∨ o = 31) := by omega
    have h37 : ¬ (o = 37 ∨ o = 38) := by omega
    obtain ⟨d1, d2⟩ := don T 0 0 nl h30 v7 (fun _ _ _ _ _ => rfl) (fun _ _ => rfl) ti (by rw [v3, rA_o h30 h37]) (by rw [v4, rB_o h30]) tTh (by rw [nTh_n (by omega) (by omega), List.append_nil])
    refine ⟨T, d2, ?_, d1⟩
    rw [show ([45, 78, 75, 73, 76, 67, 69, 84, 70] : List Int).getD 0 0 = 45 from rfl]
    dsimp only
    rw [if_neg (show ¬ (45 : Int) = 67 by decide), if_neg (show ¬ (45 : Int) = 68 by decide), if_neg (show ¬ (45 : Int) = 69 by decide), if_neg (show ¬ (45 : Int) = 70 by decide), if_neg (show ¬ (45 : Int) = 71 by decide), if_neg (show ¬ (45 : Int) = 72 by decide), if_neg (show ¬ (45 : Int) = 73 by decide), if_neg (show ¬ (45 : Int) = 74 by decide), if_neg (show ¬ (45 : Int) = 75 by decide), if_neg (show ¬ (45 : Int) = 76 by decide), if_neg (show ¬ (45 : Int) = 77 by decide), if_neg (show ¬ (45 : Int) = 78 by decide), if_neg (show ¬ (45 : Int) = 79 by decide), if_neg (show ¬ (45 : Int) = 80 by decide), if_neg (show ¬ (45 : Int) = 81 by decide), if_neg (show ¬ (45 : Int) = 82 by decide), if_neg (show ¬ (45 : Int) = 83 by decide), if_neg (show ¬ (45 : Int) = 84 by decide)]
  · rw [e] at hf ⊢
    have h30 : ¬ (o = 30 ∨ o = 31) := by omega
    have h37 : ¬ (o = 37 ∨ o = 38) := by omega
    have o0 : o = 0 := m0.mpr e
    have hU := (tk_ok hf).1
    have hr := nval_rg hU
    obtain ⟨A, hA⟩ : ∃ A, A = nk_wi T (P + 16) cl.length (nval (tx.getD (a + 1) [])) := ⟨_, rfl⟩
    have a16 : A.1 (P + 16) cl.length = nval (tx.getD (a + 1) []) := by rw [hA, wi_at, if_pos rfl]
    have aTh : rTh A P nl := by
      unfold rTh rTn at tTh ⊢
      rw [hA, wi_n (show P ≠ P + 16 by omega), wi_n (show P + 26 ≠ P + 16 by omega)]
      exact tTh
    obtain ⟨D, d1, d2, d3⟩ := m_thrs hP aTh (by omega) (nval (tx.getD (a + 1) [])) hr.1 hr.2
    obtain ⟨f1, f2⟩ := don D (nval (tx.getD (a + 1) [])) 0 _ h30 (by rw [d2.1, hA]; exact v7) (fun c x1 x2 x3 x4 => by rw [d2.2.1 c x1 x4, hA, wi_n x2]) (fun i hi => by rw [d2.2.2 i hi, hA, wi_n (by omega)]) (fun c i hc hi => by
      rw [d2.2.1 c (by omega) (by omega), hA]
      rcases hc with hc | hc
      · rw [hc, wi_at, if_neg hi, ti _ i (Or.inl rfl) hi]
      · rw [hc, wi_n (by omega), ti _ i (Or.inr rfl) hi]) (by rw [d2.2.1 _ (by omega) (by omega), a16, rA_o h30 h37]) (by rw [d2.2.1 _ (by omega) (by omega), hA, wi_n (by omega), v4, rB_o h30]) d3 (by unfold nTh; rw [if_pos o0])
    refine ⟨D, f2, ?_, f1⟩
    rw [show ([45, 78, 75, 73, 76, 67, 69, 84, 70] : List Int).getD 1 0 = 78 from rfl]
    dsimp only
    rw [if_neg (show ¬ (78 : Int) = 67 by decide), if_neg (show ¬ (78 : Int) = 68 by decide), if_neg (show ¬ (78 : Int) = 69 by decide), if_neg (show ¬ (78 : Int) = 70 by decide), if_neg (show ¬ (78 : Int) = 71 by decide), if_neg (show ¬ (78 : Int) = 72 by decide), if_neg (show ¬ (78 : Int) = 73 by decide), if_neg (show ¬ (78 : Int) = 74 by decide), if_neg (show ¬ (78 : Int) = 75 by decide), if_neg (show ¬ (78 : Int) = 76 by decide), if_neg (show ¬ (78 : Int) = 77 by decide), if_pos (show (78 : Int) = 78 from rfl), m_num hMT hU, bd_some, lt_eq, nk_w_id (z := nval (tx.getD (a + 1) [])) (by omega) (by omega), ← hA, a16, d1, bd_some]
  · rw [e] at hf ⊢
    have h30 : ¬ (o = 30 ∨ o = 31) := by omega
    have h37 : ¬ (o = 37 ∨ o = 38) := by omega
    have hU := (tk_ok hf).1
    by_cases q : 0 ≤ nval (tx.getD (a + 1) []) ∧ nval (tx.getD (a + 1) []) < lc
    · simp only [if_pos q]
      obtain ⟨A, hA⟩ : ∃ A, A = nk_wi T (P + 16) cl.length (nval (tx.getD (a + 1) [])) := ⟨_, rfl⟩
      have aTh : rTh A P nl := by
        unfold rTh rTn at tTh ⊢
        rw [hA, wi_n (show P ≠ P + 16 by omega), wi_n (show P + 26 ≠ P + 16 by omega)]
        exact tTh
      obtain ⟨f1, f2⟩ := don A (nval (tx.getD (a + 1) [])) 0 nl h30 (by rw [hA]; exact v7) (fun c x1 x2 x3 x4 => by rw [hA, wi_n x2]) (fun i hi => by rw [hA, wi_n (by omega)]) (fun c i hc hi => by
        rw [hA]
        rcases hc with hc | hc
        · rw [hc, wi_at, if_neg hi, ti _ i (Or.inl rfl) hi]
        · rw [hc, wi_n (by omega), ti _ i (Or.inr rfl) hi]) (by rw [hA, wi_at, if_pos rfl, rA_o h30 h37]) (by rw [hA, wi_n (by omega), v4, rB_o h30]) aTh (by rw [nTh_n (by omega) (by omega), List.append_nil])
      refine ⟨A, f2, ?_, f1⟩
      rw [show ([45, 78, 75, 73, 76, 67, 69, 84, 70] : List Int).getD 2 0 = 75 from rfl]
      rw [if_neg (show ¬ (75 : Int) = 67 by decide), if_neg (show ¬ (75 : Int) = 68 by decide), if_neg (show ¬ (75 : Int) = 69 by decide), if_neg (show ¬ (75 : Int) = 70 by decide), if_neg (show ¬ (75 : Int) = 71 by decide), if_neg (show ¬ (75 : Int) = 72 by decide), if_neg (show ¬ (75 : Int) = 73 by decide), if_neg (show ¬ (75 : Int) = 74 by decide), if_pos (show (75 : Int) = 75 from rfl), m_local hP hMT hb tlc hcl hU, if_pos q, bd_some, ← hA]
      rfl
    · simp only [if_neg q]
      refine ⟨_, (wr T KT).1, ?_, (wr T KT).2⟩
      rw [show ([45, 78, 75, 73, 76, 67, 69, 84, 70] : List Int).getD 2 0 = 75 from rfl]
      rw [if_neg (show ¬ (75 : Int) = 67 by decide), if_neg (show ¬ (75 : Int) = 68 by decide), if_neg (show ¬ (75 : Int) = 69 by decide), if_neg (show ¬ (75 : Int) = 70 by decide), if_neg (show ¬ (75 : Int) = 71 by decide), if_neg (show ¬ (75 : Int) = 72 by decide), if_neg (show ¬ (75 : Int) = 73 by decide), if_neg (show ¬ (75 : Int) = 74 by decide), if_pos (show (75 : Int) = 75 from rfl), m_local hP hMT hb tlc hcl hU, if_neg q, bd_some]
      rfl
  · rw [e] at hf ⊢
    have h30 : ¬ (o = 30 ∨ o = 31) := by omega
    have h37 : ¬ (o = 37 ∨ o = 38) := by omega
    have o4 : o = 4 := m4.mpr e
    have h' : (sq (tk (fU tx (a + 1)) (a + 1)) fun a => tk (fU tx a) a).1 = true := hf
    obtain ⟨g1, g2, g3⟩ := sq_ok h'
    have hU := (tk_ok g1).1
    rw [(tk_ok g1).2] at g2
    have hU2 : fU tx (a + 2) = true := (tk_ok g2).1
    have hr := nval_rg hU2
    by_cases q : 0 ≤ nval (tx.getD (a + 1) []) ∧ nval (tx.getD (a + 1) []) < lc
    · simp only [if_pos q]
      obtain ⟨A, hA⟩ : ∃ A, A = nk_wi T (P + 16) cl.length (nval (tx.getD (a + 1) [])) := ⟨_, rfl⟩
      have KA : rK P S A := by rw [hA]; exact rK_trans KT (rK_16 hP (Or.inl rfl))
      obtain ⟨B, hB2⟩ : ∃ B, B = nk_wi A (P + 17) cl.length (nval (tx.getD (a + 2) [])) := ⟨_, rfl⟩
      have b17 : B.1 (P + 17) cl.length = nval (tx.getD (a + 2) []) := by rw [hB2, wi_at, if_pos rfl]
      have b16 : B.1 (P + 16) cl.length = nval (tx.getD (a + 1) []) := by rw [hB2, wi_n (by omega), hA, wi_at, if_pos rfl]
      have bn : ∀ c, c ≠ P + 16 → c ≠ P + 17 → B.1 c = T.1 c := fun c x y => by rw [hB2, wi_n y, hA, wi_n x]
      have aTh : rTh B P nl := by
        unfold rTh rTn at tTh ⊢
        rw [bn P (by omega) (by omega), bn (P + 26) (by omega) (by omega)]
        exact tTh
      obtain ⟨D, d1, d2, d3⟩ := m_thrs hP aTh (by omega) (nval (tx.getD (a + 2) [])) hr.1 hr.2
      obtain ⟨f1, f2⟩ := don D (nval (tx.getD (a + 1) [])) (nval (tx.getD (a + 2) [])) _ h30 (by rw [d2.1, hB2, hA]; exact v7) (fun c x1 x2 x3 x4 => by rw [d2.2.1 c x1 x4, bn c x2 x3]) (fun i hi => by rw [d2.2.2 i hi, bn P (by omega) (by omega)]) (fun c i hc hi => by
        rw [d2.2.1 c (by omega) (by omega)]
        rcases hc with hc | hc
        · rw [hc, hB2, wi_n (by omega), hA, wi_at, if_neg hi, ti _ i (Or.inl rfl) hi]
        · rw [hc, hB2, wi_at, if_neg hi, hA, wi_n (by omega), ti _ i (Or.inr rfl) hi]) (by rw [d2.2.1 _ (by omega) (by omega), b16, rA_o h30 h37]) (by rw [d2.2.1 _ (by omega) (by omega), b17, rB_o h30]) d3 (by unfold nTh; rw [if_neg (by omega), if_pos o4])
      refine ⟨D, f2, ?_, f1⟩
      rw [show ([45, 78, 75, 73, 76, 67, 69, 84, 70] : List Int).getD 3 0 = 73 from rfl]
      rw [if_neg (show ¬ (73 : Int) = 67 by decide), if_neg (show ¬ (73 : Int) = 68 by decide), if_neg (show ¬ (73 : Int) = 69 by decide), if_neg (show ¬ (73 : Int) = 70 by decide), if_neg (show ¬ (73 : Int) = 71 by decide), if_neg (show ¬ (73 : Int) = 72 by decide), if_pos (show (73 : Int) = 73 from rfl), m_local hP hMT hb tlc hcl hU, if_pos q, bd_some, ← hA, if_neg (show ¬ (1 : Int) = 0 by decide), m_num (MW_K hP KA hM) hU2, bd_some, lt_eq, nk_w_id (z := nval (tx.getD (a + 2) [])) (by omega) (by omega), ← hB2, b17, d1, bd_some]
    · simp only [if_neg q]
      refine ⟨_, (wr T KT).1, ?_, (wr T KT).2⟩
      rw [show ([45, 78, 75, 73, 76, 67, 69, 84, 70] : List Int).getD 3 0 = 73 from rfl]
      rw [if_neg (show ¬ (73 : Int) = 67 by decide), if_neg (show ¬ (73 : Int) = 68 by decide), if_neg (show ¬ (73 : Int) = 69 by decide), if_neg (show ¬ (73 : Int) = 70 by decide), if_neg (show ¬ (73 : Int) = 71 by decide), if_neg (show ¬ (73 : Int) = 72 by decide), if_pos (show (73 : Int) = 73 from rfl), m_local hP hMT hb tlc hcl hU, if_neg q, bd_some, if_pos rfl]
  · rw [e] at hf ⊢
    have h30 : ¬ (o = 30 ∨ o = 31) := by omega
    have h37 : ¬ (o = 37 ∨ o = 38) := by omega
    have hN := (tk_ok hf).1
    obtain ⟨A, hA⟩ : ∃ A, A = nk_wi T (P + 16) cl.length (lat ls (tx.getD (a + 1) [])) := ⟨_, rfl⟩
    have KA : rK P S A := by rw [hA]; exact rK_trans KT (rK_16 hP (Or.inl rfl))
    have a16 : A.1 (P + 16) cl.length = lat ls (tx.getD (a + 1) []) := by rw [hA, wi_at, if_pos rfl]
    have aTh : rTh A P nl := by
      unfold rTh rTn at tTh ⊢
      rw [hA, wi_n (show P ≠ P + 16 by omega), wi_n (show P + 26 ≠ P + 16 by omega)]
      exact tTh
    have h320 : ja_X13_code_b320 121 (a : Int) A = some (0, nk_wi A 121 12 ((a + 1 : Nat) : Int)) := by
      unfold ja_X13_code_b320
      rw [w_nat1 (by omega)]
      rfl
    by_cases q : 0 ≤ lat ls (tx.getD (a + 1) []) ∧ lat ls (tx.getD (a + 1) []) < (en : Int)
    · simp only [if_pos q]
      obtain ⟨f1, f2⟩ := don A (lat ls (tx.getD (a + 1) [])) 0 nl h30 (by rw [hA]; exact v7) (fun c x1 x2 x3 x4 => by rw [hA, wi_n x2]) (fun i hi => by rw [hA, wi_n (by omega)]) (fun c i hc hi => by
        rw [hA]
        rcases hc with hc | hc
        · rw [hc, wi_at, if_neg hi, ti _ i (Or.inl rfl) hi]
        · rw [hc, wi_n (by omega), ti _ i (Or.inr rfl) hi]) (by rw [a16, rA_o h30 h37]) (by rw [hA, wi_n (by omega), v4, rB_o h30]) aTh (by rw [nTh_n (by omega) (by omega), List.append_nil])
      refine ⟨A, f2, ?_, f1⟩
      rw [show ([45, 78, 75, 73, 76, 67, 69, 84, 70] : List Int).getD 4 0 = 76 from rfl]
      rw [if_neg (show ¬ (76 : Int) = 67 by decide), if_neg (show ¬ (76 : Int) = 68 by decide), if_neg (show ¬ (76 : Int) = 69 by decide), if_neg (show ¬ (76 : Int) = 70 by decide), if_neg (show ¬ (76 : Int) = 71 by decide), if_neg (show ¬ (76 : Int) = 72 by decide), if_neg (show ¬ (76 : Int) = 73 by decide), if_neg (show ¬ (76 : Int) = 74 by decide), if_neg (show ¬ (76 : Int) = 75 by decide), if_pos (show (76 : Int) = 76 from rfl), m_labA hMT LT (fN_T hN), bd_some, lt_eq, ← hA, a16, if_neg (show ¬ lat ls (tx.getD (a + 1) []) < 0 by omega), if_pos q.2]
    · simp only [if_neg q]
      refine ⟨_, (wr A KA).1, ?_, (wr A KA).2⟩
      rw [show ([45, 78, 75, 73, 76, 67, 69, 84, 70] : List Int).getD 4 0 = 76 from rfl]
      rw [if_neg (show ¬ (76 : Int) = 67 by decide), if_neg (show ¬ (76 : Int) = 68 by decide), if_neg (show ¬ (76 : Int) = 69 by decide), if_neg (show ¬ (76 : Int) = 70 by decide), if_neg (show ¬ (76 : Int) = 71 by decide), if_neg (show ¬ (76 : Int) = 72 by decide), if_neg (show ¬ (76 : Int) = 73 by decide), if_neg (show ¬ (76 : Int) = 74 by decide), if_neg (show ¬ (76 : Int) = 75 by decide), if_pos (show (76 : Int) = 76 from rfl), m_labA hMT LT (fN_T hN), bd_some, lt_eq, ← hA, a16, h320]
      by_cases q2 : lat ls (tx.getD (a + 1) []) < 0
      · rw [if_pos q2]
      · rw [if_neg q2, if_neg (show ¬ lat ls (tx.getD (a + 1) []) < (en : Int) by omega)]
  · rw [e] at hf ⊢
    have o30 : o = 30 := m30.mpr e
    have hCc := (tk_ok hf).1
    have hCl := fC_T hCc
    have no52 : fW tx 52 (a + 1) = false := by
      cases h : fW tx 52 (a + 1) with
      | false => rfl
      | true =>
        exfalso
        unfold fC at hCc
        rw [fW_at h] at hCc
        revert hCc
        decide +kernel
    have ts : T.1 P 4 = (sl.length : Int) := by rw [hT, mT_P hP (by decide)]; exact hZ.2.1.1
    have r4 := amx_rg (tx.getD (a + 1) []) ns 0
    by_cases q : 0 ≤ amx (tx.getD (a + 1) []) ns 0
    · simp only [if_pos q]
      obtain ⟨U, hU⟩ : ∃ U, U = nk_wi (nk_wi (nk_wi T (P + 20) sl.length (rvT (4 + 2 * amx (tx.getD (a + 1) []) ns 0))) (P + 16) cl.length (sl.length : Int)) P 4 ((sl.length + 1 : Nat) : Int) := ⟨_, rfl⟩
      obtain ⟨f1, f2⟩ := m_doneS (b := b) (o := o) (a := a) (x := amx (tx.getD (a + 1) []) ns 0) (t := 4 + 2 * amx (tx.getD (a + 1) []) ns 0) hP hZ (Or.inl o30) (U := U) (by rw [hU, hT])
      have ep : psh b o a (amx (tx.getD (a + 1) []) ns 0) 0 (cl, sl, kl, nl) = (cl ++ [(o, amx (tx.getD (a + 1) []) ns 0, (sl.length : Int), b, a)], sl ++ [4 + 2 * amx (tx.getD (a + 1) []) ns 0], kl, nl) := by
        unfold psh sTy
        rw [if_pos (Or.inl o30), if_pos o30, nTh_n (by omega) (by omega), List.append_nil]
      refine ⟨U, f2, ?_, by rw [ep]; exact f1⟩
      rw [show ([45, 78, 75, 73, 76, 67, 69, 84, 70] : List Int).getD 5 0 = 67 from rfl]
      rw [if_pos (show (67 : Int) = 67 from rfl)]
      unfold ja_X13_code_b336 ja_X13_madeStep ja_X13_madeStep_b23 ja_X13_madeStep_b49
      have e8 : nk_w (8 + amx (tx.getD (a + 1) []) ns 0) = rvT (4 + 2 * amx (tx.getD (a + 1) []) ns 0) := by
        rw [nk_w_id (z := 8 + amx (tx.getD (a + 1) []) ns 0) (by omega) (by omega)]
        unfold rvT
        rw [if_neg (by omega), if_neg (by omega), if_neg (by omega), if_pos (by omega)]
        omega
      rw [w_nat1 (by omega), m_it hMT (a + 1) (by omega), bd_some, no52, if_pos (show bi false = 0 from rfl), m_classTok hMT hP hCT hCl, bd_some, if_pos q, if_pos (show (o : Int) = 30 by omega), (jcP hP 27 (by decide) : ja_c P 27 = P + 20), e8]
      have := m_made hP ts (hsl (Or.inl o30)) hcl (rvT (4 + 2 * amx (tx.getD (a + 1) []) ns 0))
      rw [← hU] at this
      have this' : ja_X13_madeStep_b86 P (cl.length : Int) (P + (27 - 7)) (T.1 P 4) (rvT (4 + 2 * amx (tx.getD (a + 1) []) ns 0)) T = some (1, U) := this
      rw [this', bd_some]
      rfl
    · simp only [if_neg q]
      refine ⟨_, (wr T KT).1, ?_, (wr T KT).2⟩
      rw [show ([45, 78, 75, 73, 76, 67, 69, 84, 70] : List Int).getD 5 0 = 67 from rfl]
      rw [if_pos (show (67 : Int) = 67 from rfl)]
      unfold ja_X13_code_b336 ja_X13_madeStep ja_X13_madeStep_b23
      rw [w_nat1 (by omega), m_it hMT (a + 1) (by omega), bd_some, no52, if_pos (show bi false = 0 from rfl), m_classTok hMT hP hCT hCl, bd_some, if_neg q, m_it hMT (a + 1) (by omega), bd_some, no52, if_pos (show bi false = 0 from rfl)]
      rfl
  · rw [e] at hf ⊢
    have o31 : o = 31 := m31.mpr e
    have hE := (tk_ok hf).1
    have hTt := fT_E hE
    have hl1 := fT_T hTt
    have ts : T.1 P 4 = (sl.length : Int) := by rw [hT, mT_P hP (by decide)]; exact hZ.2.1.1
    have fin : ∀ t x : Int, tyC ns (tx.getD (a + 1) []) = x → (if x = 1 then 3 else x + 1) = t → ∀ w : Int, w = rvT t → ∃ U, rK P S U ∧ ja_X13_madeStep_b86 P (cl.length : Int) (P + (27 - 7)) (T.1 P 4) w T = some (1, U) ∧ rJL U P (psh b o a x 0 (cl, sl, kl, nl)) := by
      intro t x hx ht w hw
      obtain ⟨U, hU⟩ : ∃ U, U = nk_wi (nk_wi (nk_wi T (P + 20) sl.length (rvT t)) (P + 16) cl.length (sl.length : Int)) P 4 ((sl.length + 1 : Nat) : Int) := ⟨_, rfl⟩
      obtain ⟨f1, f2⟩ := m_doneS (b := b) (o := o) (a := a) (x := x) (t := t) hP hZ (Or.inr o31) (U := U) (by rw [hU, hT])
      have ep : psh b o a x 0 (cl, sl, kl, nl) = (cl ++ [(o, x, (sl.length : Int), b, a)], sl ++ [t], kl, nl) := by
        unfold psh sTy
        rw [if_pos (Or.inr o31), if_neg (show ¬ o = 30 by omega), if_pos o31, ht, nTh_n (by omega) (by omega), List.append_nil]
      have := m_made hP ts (hsl (Or.inr o31)) hcl (rvT t)
      rw [← hU] at this
      exact ⟨U, f2, by rw [hw]; exact this, by rw [ep]; exact f1⟩
    cases h52 : fW tx 52 (a + 1) with
    | true =>
      have et : tyC ns (tx.getD (a + 1) []) = 1 := by
        rw [fW_at h52]
        unfold tyC
        rw [if_pos rfl]
      obtain ⟨U, u1, u2, u3⟩ := fin 3 1 et (by rw [if_pos rfl]) 40 (by decide)
      simp only [et, show ¬ (1 : Int) = -2 by decide, if_false]
      refine ⟨U, u1, ?_, u3⟩
      rw [show ([45, 78, 75, 73, 76, 67, 69, 84, 70] : List Int).getD 6 0 = 69 from rfl]
      rw [if_neg (show ¬ (69 : Int) = 67 by decide), if_neg (show ¬ (69 : Int) = 68 by decide), if_pos (show (69 : Int) = 69 from rfl)]
      unfold ja_X13_code_b336 ja_X13_madeStep ja_X13_madeStep_b23 ja_X13_madeStep_b49
      rw [w_nat1 (by omega), m_it hMT (a + 1) (by omega), bd_some, h52, if_neg (show ¬ bi true = 0 by decide), if_neg (show ¬ (0 : Int) ≤ -1 by decide), m_it hMT (a + 1) (by omega), bd_some, h52, if_neg (show ¬ bi true = 0 by decide), if_neg (show ¬ (o : Int) = 30 by omega), if_neg (show ¬ (0 : Int) ≤ -1 by decide), (jcP hP 27 (by decide) : ja_c P 27 = P + 20), u2, bd_some]
      rfl
    | false =>
      have hCc : fC tx (a + 1) = true := by
        rw [h52, Bool.false_or] at hE
        exact hE
      have sh2 : shp (tx.getD (a + 1) []) = 2 := (shp_eq _).2.1.mpr (of_decide_eq_true hCc)
      have et : tyC ns (tx.getD (a + 1) []) = if 0 ≤ amx (tx.getD (a + 1) []) ns 0 then 4 + 2 * amx (tx.getD (a + 1) []) ns 0 else -2 := by
        unfold tyC
        rw [if_neg (fun h => by rw [h] at sh2; revert sh2; decide +kernel), if_neg (fun h => by rw [h] at sh2; revert sh2; decide +kernel), if_neg (fun h => by rw [h] at sh2; revert sh2; decide +kernel), if_neg (by omega)]
      by_cases q : 0 ≤ amx (tx.getD (a + 1) []) ns 0
      · rw [if_pos q] at et
        have r4 := amx_rg (tx.getD (a + 1) []) ns 0
        obtain ⟨U, u1, u2, u3⟩ := fin (5 + 2 * amx (tx.getD (a + 1) []) ns 0) (4 + 2 * amx (tx.getD (a + 1) []) ns 0) et (by rw [if_neg (by omega)]; omega) (nk_w (48 + amx (tx.getD (a + 1) []) ns 0)) (by
          rw [nk_w_id (z := 48 + amx (tx.getD (a + 1) []) ns 0) (by omega) (by omega)]
          unfold rvT
          rw [if_neg (by omega), if_neg (by omega), if_neg (by omega), if_neg (by omega)]
          omega)
        simp only [et, show ¬ 4 + 2 * amx (tx.getD (a + 1) []) ns 0 = -2 by omega, if_false]
        refine ⟨U, u1, ?_, u3⟩
        rw [show ([45, 78, 75, 73, 76, 67, 69, 84, 70] : List Int).getD 6 0 = 69 from rfl]
        rw [if_neg (show ¬ (69 : Int) = 67 by decide), if_neg (show ¬ (69 : Int) = 68 by decide), if_pos (show (69 : Int) = 69 from rfl)]
        unfold ja_X13_code_b336 ja_X13_madeStep ja_X13_madeStep_b23 ja_X13_madeStep_b49
        rw [w_nat1 (by omega), m_it hMT (a + 1) (by omega), bd_some, h52, if_pos (show bi false = 0 from rfl), m_classTok hMT hP hCT hl1, bd_some, if_pos q, if_neg (show ¬ (o : Int) = 30 by omega), if_pos q, (jcP hP 27 (by decide) : ja_c P 27 = P + 20), u2, bd_some]
        rfl
      · rw [if_neg q] at et
        simp only [et, if_true]
        refine ⟨_, (wr T KT).1, ?_, (wr T KT).2⟩
        rw [show ([45, 78, 75, 73, 76, 67, 69, 84, 70] : List Int).getD 6 0 = 69 from rfl]
        rw [if_neg (show ¬ (69 : Int) = 67 by decide), if_neg (show ¬ (69 : Int) = 68 by decide), if_pos (show (69 : Int) = 69 from rfl)]
        unfold ja_X13_code_b336 ja_X13_madeStep ja_X13_madeStep_b23
        rw [w_nat1 (by omega), m_it hMT (a + 1) (by omega), bd_some, h52, if_pos (show bi false = 0 from rfl), m_classTok hMT hP hCT hl1, bd_some, if_neg q, m_it hMT (a + 1) (by omega), bd_some, h52, if_pos (show bi false = 0 from rfl)]
        rfl
  · rw [e] at hf ⊢
    have h30 : ¬ (o = 30 ∨ o = 31) := by omega
    have h37 : o = 37 ∨ o = 38 := m37.mp e
    have h' := (tk_ok hf).1
    rw [Bool.and_eq_true] at h'
    have hTt := h'.1
    obtain ⟨A, hA⟩ : ∃ A, A = nk_wi T (P + 16) cl.length (rvT (tyC ns (tx.getD (a + 1) []))) := ⟨_, rfl⟩
    have KA : rK P S A := by rw [hA]; exact rK_trans KT (rK_16 hP (Or.inl rfl))
    have a16 : A.1 (P + 16) cl.length = rvT (tyC ns (tx.getD (a + 1) [])) := by rw [hA, wi_at, if_pos rfl]
    have aTh : rTh A P nl := by
      unfold rTh rTn at tTh ⊢
      rw [hA, wi_n (show P ≠ P + 16 by omega), wi_n (show P + 26 ≠ P + 16 by omega)]
      exact tTh
    have hrg := tyC_rg ns (tx.getD (a + 1) [])
    have hm1 := ty_m1 (ns := ns) hTt
    have hneg := rv_neg hrg
    by_cases q : tyC ns (tx.getD (a + 1) []) = -2
    · simp only [if_pos q]
      refine ⟨_, (wr A KA).1, ?_, (wr A KA).2⟩
      rw [show ([45, 78, 75, 73, 76, 67, 69, 84, 70] : List Int).getD 7 0 = 84 from rfl]
      rw [if_neg (show ¬ (84 : Int) = 67 by decide), if_neg (show ¬ (84 : Int) = 68 by decide), if_neg (show ¬ (84 : Int) = 69 by decide), if_neg (show ¬ (84 : Int) = 70 by decide), if_neg (show ¬ (84 : Int) = 71 by decide), if_neg (show ¬ (84 : Int) = 72 by decide), if_neg (show ¬ (84 : Int) = 73 by decide), if_neg (show ¬ (84 : Int) = 74 by decide), if_neg (show ¬ (84 : Int) = 75 by decide), if_neg (show ¬ (84 : Int) = 76 by decide), if_neg (show ¬ (84 : Int) = 77 by decide), if_neg (show ¬ (84 : Int) = 78 by decide), if_neg (show ¬ (84 : Int) = 79 by decide), if_neg (show ¬ (84 : Int) = 80 by decide), if_neg (show ¬ (84 : Int) = 81 by decide), if_neg (show ¬ (84 : Int) = 82 by decide), if_neg (show ¬ (84 : Int) = 83 by decide), if_pos (show (84 : Int) = 84 from rfl), m_typeOf hMT hP hCT (fT_T hTt), bd_some, ty_rv hTt hns, lt_eq, ← hA, a16, if_neg (show ¬ 0 ≤ rvT (tyC ns (tx.getD (a + 1) [])) by have := hneg.mp (Or.inl q); omega)]
      rfl
    · simp only [if_neg q]
      obtain ⟨f1, f2⟩ := don A (tyC ns (tx.getD (a + 1) [])) 0 nl h30 (by rw [hA]; exact v7) (fun c x1 x2 x3 x4 => by rw [hA, wi_n x2]) (fun i hi => by rw [hA, wi_n (by omega)]) (fun c i hc hi => by
        rw [hA]
        rcases hc with hc | hc
        · rw [hc, wi_at, if_neg hi, ti _ i (Or.inl rfl) hi]
        · rw [hc, wi_n (by omega), ti _ i (Or.inr rfl) hi]) (by rw [a16]; unfold rA; rw [if_neg h30, if_pos h37]) (by rw [hA, wi_n (by omega), v4, rB_o h30]) aTh (by rw [nTh_n (by omega) (by omega), List.append_nil])
      refine ⟨A, f2, ?_, f1⟩
      rw [show ([45, 78, 75, 73, 76, 67, 69, 84, 70] : List Int).getD 7 0 = 84 from rfl]
      rw [if_neg (show ¬ (84 : Int) = 67 by decide), if_neg (show ¬ (84 : Int) = 68 by decide), if_neg (show ¬ (84 : Int) = 69 by decide), if_neg (show ¬ (84 : Int) = 70 by decide), if_neg (show ¬ (84 : Int) = 71 by decide), if_neg (show ¬ (84 : Int) = 72 by decide), if_neg (show ¬ (84 : Int) = 73 by decide), if_neg (show ¬ (84 : Int) = 74 by decide), if_neg (show ¬ (84 : Int) = 75 by decide), if_neg (show ¬ (84 : Int) = 76 by decide), if_neg (show ¬ (84 : Int) = 77 by decide), if_neg (show ¬ (84 : Int) = 78 by decide), if_neg (show ¬ (84 : Int) = 79 by decide), if_neg (show ¬ (84 : Int) = 80 by decide), if_neg (show ¬ (84 : Int) = 81 by decide), if_neg (show ¬ (84 : Int) = 82 by decide), if_neg (show ¬ (84 : Int) = 83 by decide), if_pos (show (84 : Int) = 84 from rfl), m_typeOf hMT hP hCT (fT_T hTt), bd_some, ty_rv hTt hns, lt_eq, ← hA, a16, if_pos (show 0 ≤ rvT (tyC ns (tx.getD (a + 1) [])) by
        by_cases e : 0 ≤ rvT (tyC ns (tx.getD (a + 1) []))
        · exact e
        · have := hneg.mpr (by omega); omega)]
  · rw [e] at hf ⊢
    have h30 : ¬ (o = 30 ∨ o = 31) := by omega
    have h37 : ¬ (o = 37 ∨ o = 38) := by omega
    have hR := (tk_ok hf).1
    have er := m_refM hP ⟨hMT, hCT, hFT, hBT⟩ hu hO hOb hcl hR (hk8 e)
    cases ho : oM ns us fl bl o (tx.getD (a + 1) []) with
    | none =>
      rw [ho] at er
      refine ⟨_, (wr T KT).1, ?_, (wr T KT).2⟩
      rw [show ([45, 78, 75, 73, 76, 67, 69, 84, 70] : List Int).getD 8 0 = 70 from rfl]
      dsimp only
      rw [if_neg (show ¬ (70 : Int) = 67 by decide), if_neg (show ¬ (70 : Int) = 68 by decide), if_neg (show ¬ (70 : Int) = 69 by decide), if_pos (show (70 : Int) = 70 from rfl), er, bd_some]
      rfl
    | some q =>
      obtain ⟨x, y⟩ := q
      rw [ho] at er
      obtain ⟨A, hA⟩ : ∃ A, A = nk_wi (nk_wi T (P + 16) cl.length x) (P + 17) cl.length y := ⟨_, rfl⟩
      have an : ∀ c, c ≠ P + 16 → c ≠ P + 17 → A.1 c = T.1 c := fun c x y => by rw [hA, wi_n y, wi_n x]
      have aTh : rTh A P nl := by
        unfold rTh rTn at tTh ⊢
        rw [an P (by omega) (by omega), an (P + 26) (by omega) (by omega)]
        exact tTh
      obtain ⟨f1, f2⟩ := don A x y nl h30 (by rw [hA]; exact v7) (fun c x1 x2 x3 x4 => an c x2 x3) (fun i hi => by rw [an P (by omega) (by omega)]) (fun c i hc hi => by
        rw [hA]
        rcases hc with hc | hc
        · rw [hc, wi_n (by omega), wi_at, if_neg hi, ti _ i (Or.inl rfl) hi]
        · rw [hc, wi_at, if_neg hi, wi_n (by omega), ti _ i (Or.inr rfl) hi]) (by rw [hA, wi_n (by omega), wi_at, if_pos rfl, rA_o h30 h37]) (by rw [hA, wi_at, if_pos rfl, rB_o h30]) aTh (by rw [nTh_n (by omega) (by omega), List.append_nil])
      refine ⟨A, f2, ?_, f1⟩
      rw [show ([45, 78, 75, 73, 76, 67, 69, 84, 70] : List Int).getD 8 0 = 70 from rfl]
      dsimp only
      have er' : ja_X13_reference 121 P (cl.length : Int) (o : Int) ((a + 1 : Nat) : Int) T = some (1, A) := by rw [er, hA]
      rw [if_neg (show ¬ (70 : Int) = 67 by decide), if_neg (show ¬ (70 : Int) = 68 by decide), if_neg (show ¬ (70 : Int) = 69 by decide), if_pos (show (70 : Int) = 70 from rfl), er', bd_some]
      rfl
end MCG
