/-! The class looks at an instruction: what it finds. -/
section CFD
variable {ns : List (List Int)} {us : List Int} {fl : List (List Int × Nat × Int)} {bl : List jB} {z : jL} {el : List (Nat × Nat × Nat × Nat)} {F : Int → Prop} {dn up : Int → Int} {H lc : Nat → Nat} {ty : Nat → Option (Nat → Int)} {th : Nat → Int} {n Q m0 : Nat} {σ : jG} {C : jH} {i h : Nat} {x : jC} {u : jQ} {S : nk_S} {A : jA} {W : Nat → Bool} {G : jZ}
theorem nlR_at (b : Bool) (e : Nat) (r : Nat → Bool) (j : Nat) : nlR b e r j = (r j || (b && decide (j = e))) := by
  unfold nlR
  cases b with
  | false => rw [if_neg (by decide), Bool.false_and, Bool.or_false]
  | true => rw [if_pos rfl, Bool.true_and]; rfl
theorem fdN {r s : Nat → Bool} (hno : x.1 ≠ 41 ∧ x.1 ≠ 39 ∧ x.1 ≠ 40) (hr : ∀ e, e < 6 → r e = pRz G σ x h u e) (h6 : r 6 = false) (h7 : r 7 = false) (h8 : r 8 = true) (h9 : ∀ e, 9 ≤ e → r e = false) (hs : ∀ e, e < 6 → s (48 + e) = pRz G σ x h u e) (hs' : ∀ j, j < 48 ∨ 54 ≤ j → s j = false) : r = pFd G σ x h u ∧ s = pLs G σ x h u := by
  constructor
  · funext e
    unfold pFd
    split
    · exact hr e (by assumption)
    · split
      · rename_i q; rw [q, h6, decide_eq_false hno.1, Bool.false_and]
      · split
        · rename_i q; rw [q, h7, decide_eq_false (by omega), Bool.false_and, Bool.false_and]
        · by_cases q : e = 8
          · rw [q, h8]; rfl
          · rw [h9 e (by omega), decide_eq_false q]
  · funext j
    unfold pLs
    have ht : pTh G σ x h u j = false := by
      unfold pTh
      rw [if_neg hno.1, if_neg hno.2.1, if_neg hno.2.2]
    rw [ht, Bool.false_or]
    by_cases q : 48 ≤ j ∧ j < 54
    · rw [decide_eq_true q.1, decide_eq_true q.2, Bool.true_and, Bool.true_and, ← hs (j - 48) (by omega), show 48 + (j - 48) = j by omega]
    · rw [hs' j (by omega)]
      by_cases q1 : 48 ≤ j
      · rw [decide_eq_false (p := j < 54) (by omega), Bool.and_false, Bool.false_and]
      · rw [decide_eq_false q1, Bool.false_and, Bool.false_and]
theorem fd_1 {b : Bool} {e0 : Nat} (he : e0 < 6) (hno : x.1 ≠ 41 ∧ x.1 ≠ 39 ∧ x.1 ≠ 40) (hr : ∀ e, e < 6 → pRz G σ x h u e = (b && decide (e = e0))) : nlR b e0 (onS 8) = pFd G σ x h u ∧ nlR b (48 + e0) noS = pLs G σ x h u := by
  refine fdN hno (fun e q => ?_) ?_ ?_ ?_ (fun e q => ?_) (fun e q => ?_) (fun j q => ?_)
  · rw [nlR_at, hr e q, show onS 8 e = false from decide_eq_false (by omega), Bool.false_or]
  · rw [nlR_at, decide_eq_false (by omega), Bool.and_false]; rfl
  · rw [nlR_at, decide_eq_false (by omega), Bool.and_false]; rfl
  · rw [nlR_at]; rfl
  · rw [nlR_at, decide_eq_false (by omega), Bool.and_false, Bool.or_false]; exact decide_eq_false (by omega)
  · rw [nlR_at, hr e q]
    show (false || (b && decide (48 + e = 48 + e0))) = _
    rw [Bool.false_or]
    congr 1
    exact decide_eq_decide.mpr (by omega)
  · rw [nlR_at, decide_eq_false (by omega), Bool.and_false]; rfl
theorem fd_0 (hno : x.1 ≠ 41 ∧ x.1 ≠ 39 ∧ x.1 ≠ 40) (hr : ∀ e, e < 6 → pRz G σ x h u e = false) : onS 8 = pFd G σ x h u ∧ noS = pLs G σ x h u := fd_1 (b := false) (e0 := 0) (by decide) hno (fun e q => by rw [hr e q]; rfl)
theorem fd_3 {b0 b1 b2 : Bool} {e0 e1 e2 : Nat} (he : e0 < 6 ∧ e1 < 6 ∧ e2 < 6) (hno : x.1 ≠ 41 ∧ x.1 ≠ 39 ∧ x.1 ≠ 40) (hr : ∀ e, e < 6 → pRz G σ x h u e = ((b0 && decide (e = e0)) || (b1 && decide (e = e1)) || (b2 && decide (e = e2)))) : nlR b2 e2 (nlR b1 e1 (nlR b0 e0 (onS 8))) = pFd G σ x h u ∧ nlR b2 (48 + e2) (nlR b1 (48 + e1) (nlR b0 (48 + e0) noS)) = pLs G σ x h u := by
  have o1 : ∀ e, e ≠ e0 → e ≠ e1 → e ≠ e2 → nlR b2 e2 (nlR b1 e1 (nlR b0 e0 (onS 8))) e = onS 8 e := fun e q0 q1 q2 => by
    rw [nlR_at, nlR_at, nlR_at, decide_eq_false q0, decide_eq_false q1, decide_eq_false q2, Bool.and_false, Bool.and_false, Bool.and_false, Bool.or_false, Bool.or_false, Bool.or_false]
  refine fdN hno (fun e q => ?_) ?_ ?_ ?_ (fun e q => ?_) (fun e q => ?_) (fun j q => ?_)
  · rw [nlR_at, nlR_at, nlR_at, hr e q, show onS 8 e = false from decide_eq_false (by omega), Bool.false_or]
  · rw [o1 6 (by omega) (by omega) (by omega)]; rfl
  · rw [o1 7 (by omega) (by omega) (by omega)]; rfl
  · rw [o1 8 (by omega) (by omega) (by omega)]; rfl
  · rw [o1 e (by omega) (by omega) (by omega)]; exact decide_eq_false (by omega)
  · rw [nlR_at, nlR_at, nlR_at, hr e q]
    show (false || (b0 && decide (48 + e = 48 + e0)) || (b1 && decide (48 + e = 48 + e1)) || (b2 && decide (48 + e = 48 + e2))) = _
    rw [Bool.false_or, decide_eq_decide.mpr (show 48 + e = 48 + e0 ↔ e = e0 by omega), decide_eq_decide.mpr (show 48 + e = 48 + e1 ↔ e = e1 by omega), decide_eq_decide.mpr (show 48 + e = 48 + e2 ↔ e = e2 by omega)]
  · rw [nlR_at, nlR_at, nlR_at, decide_eq_false (by omega), decide_eq_false (by omega), decide_eq_false (by omega), Bool.and_false, Bool.and_false, Bool.and_false]; rfl
theorem e_6 {e : Nat} (h : e < 6) : e = 0 ∨ e = 1 ∨ e = 2 ∨ e = 3 ∨ e = 4 ∨ e = 5 := by omega
/-- instructions that raise nothing -/
theorem pRz_n (hx : x.1 ≤ 10 ∨ (13 ≤ x.1 ∧ x.1 ≤ 30) ∨ x.1 = 38 ∨ x.1 = 42 ∨ x.1 = 43 ∨ x.1 = 44 ∨ x.1 = 45) (e : Nat) (he : e < 6) : pRz G σ x h u e = false := by
  unfold pRz
  rcases e_6 he with rfl | rfl | rfl | rfl | rfl | rfl
  · rw [if_pos rfl, if_neg (by omega), if_neg (by omega), if_neg (by omega), if_neg (by omega)]
  · rw [if_neg (by decide), if_pos rfl, if_neg (by omega), if_neg (by omega)]
  · rw [if_neg (by decide), if_neg (by decide), if_pos rfl, decide_eq_false (by omega), Bool.false_and]
  · rw [if_neg (by decide), if_neg (by decide), if_neg (by decide), if_pos rfl, decide_eq_false (by omega), Bool.false_and]
  · rw [if_neg (by decide), if_neg (by decide), if_neg (by decide), if_neg (by decide), if_pos rfl, decide_eq_false (by omega), Bool.false_and]
  · rw [if_neg (by decide), if_neg (by decide), if_neg (by decide), if_neg (by decide), if_neg (by decide), if_pos rfl, if_neg (by omega)]
theorem pRz_c (hx : x.1 = 11 ∨ x.1 = 12) (e : Nat) (he : e < 6) : pRz G σ x h u e = (pRz G σ x h u 3 && decide (e = 3)) := by
  rcases e_6 he with rfl | rfl | rfl | rfl | rfl | rfl
  · rw [show decide (0 = 3) = false from rfl, Bool.and_false]; unfold pRz; rw [if_pos rfl, if_neg (by omega), if_neg (by omega), if_neg (by omega), if_neg (by omega)]
  · rw [show decide (1 = 3) = false from rfl, Bool.and_false]; unfold pRz; rw [if_neg (by decide), if_pos rfl, if_neg (by omega), if_neg (by omega)]
  · rw [show decide (2 = 3) = false from rfl, Bool.and_false]; unfold pRz; rw [if_neg (by decide), if_neg (by decide), if_pos rfl, decide_eq_false (by omega), Bool.false_and]
  · rw [show decide (3 = 3) = true from rfl, Bool.and_true]
  · rw [show decide (4 = 3) = false from rfl, Bool.and_false]; unfold pRz; rw [if_neg (by decide), if_neg (by decide), if_neg (by decide), if_neg (by decide), if_pos rfl, decide_eq_false (by omega), Bool.false_and]
  · rw [show decide (5 = 3) = false from rfl, Bool.and_false]; unfold pRz; rw [if_neg (by decide), if_neg (by decide), if_neg (by decide), if_neg (by decide), if_neg (by decide), if_pos rfl, if_neg (by omega)]
/-- instructions that raise only that there is no object -/
theorem pRz_d (hx : x.1 = 32 ∨ x.1 = 35 ∨ x.1 = 36 ∨ x.1 = 40 ∨ x.1 = 41) (e : Nat) (he : e < 6) : pRz G σ x h u e = (pRz G σ x h u 0 && decide (e = 0)) := by
  rcases e_6 he with rfl | rfl | rfl | rfl | rfl | rfl
  · rw [show decide (0 = 0) = true from rfl, Bool.and_true]
  · rw [show decide (1 = 0) = false from rfl, Bool.and_false]; unfold pRz; rw [if_neg (by decide), if_pos rfl, if_neg (by omega), if_neg (by omega)]
  · rw [show decide (2 = 0) = false from rfl, Bool.and_false]; unfold pRz; rw [if_neg (by decide), if_neg (by decide), if_pos rfl, decide_eq_false (by omega), Bool.false_and]
  · rw [show decide (3 = 0) = false from rfl, Bool.and_false]; unfold pRz; rw [if_neg (by decide), if_neg (by decide), if_neg (by decide), if_pos rfl, decide_eq_false (by omega), Bool.false_and]
  · rw [show decide (4 = 0) = false from rfl, Bool.and_false]; unfold pRz; rw [if_neg (by decide), if_neg (by decide), if_neg (by decide), if_neg (by decide), if_pos rfl, decide_eq_false (by omega), Bool.false_and]
  · rw [show decide (5 = 0) = false from rfl, Bool.and_false]; unfold pRz; rw [if_neg (by decide), if_neg (by decide), if_neg (by decide), if_neg (by decide), if_neg (by decide), if_pos rfl, if_neg (by omega)]
theorem pRz_37 (hx : x.1 = 37) (e : Nat) (he : e < 6) : pRz G σ x h u e = (pRz G σ x h u 4 && decide (e = 4)) := by
  rcases e_6 he with rfl | rfl | rfl | rfl | rfl | rfl
  · rw [show decide (0 = 4) = false from rfl, Bool.and_false]; unfold pRz; rw [if_pos rfl, if_neg (by omega), if_neg (by omega), if_neg (by omega), if_neg (by omega)]
  · rw [show decide (1 = 4) = false from rfl, Bool.and_false]; unfold pRz; rw [if_neg (by decide), if_pos rfl, if_neg (by omega), if_neg (by omega)]
  · rw [show decide (2 = 4) = false from rfl, Bool.and_false]; unfold pRz; rw [if_neg (by decide), if_neg (by decide), if_pos rfl, decide_eq_false (by omega), Bool.false_and]
  · rw [show decide (3 = 4) = false from rfl, Bool.and_false]; unfold pRz; rw [if_neg (by decide), if_neg (by decide), if_neg (by decide), if_pos rfl, decide_eq_false (by omega), Bool.false_and]
  · rw [show decide (4 = 4) = true from rfl, Bool.and_true]
  · rw [show decide (5 = 4) = false from rfl, Bool.and_false]; unfold pRz; rw [if_neg (by decide), if_neg (by decide), if_neg (by decide), if_neg (by decide), if_neg (by decide), if_pos rfl, if_neg (by omega)]
theorem pRz_31 (hx : x.1 = 31) (e : Nat) (he : e < 6) : pRz G σ x h u e = (decide ((u (12 + h - 1)).2.1.1 < 0) && decide (e = 2)) := by
  rcases e_6 he with rfl | rfl | rfl | rfl | rfl | rfl
  · rw [show decide (0 = 2) = false from rfl, Bool.and_false]; unfold pRz; rw [if_pos rfl, if_neg (by omega), if_neg (by omega), if_neg (by omega), if_neg (by omega)]
  · rw [show decide (1 = 2) = false from rfl, Bool.and_false]; unfold pRz; rw [if_neg (by decide), if_pos rfl, if_neg (by omega), if_neg (by omega)]
  · rw [show decide (2 = 2) = true from rfl, Bool.and_true]; unfold pRz; rw [if_neg (by decide), if_neg (by decide), if_pos rfl, decide_eq_true hx, Bool.true_and]
  · rw [show decide (3 = 2) = false from rfl, Bool.and_false]; unfold pRz; rw [if_neg (by decide), if_neg (by decide), if_neg (by decide), if_pos rfl, decide_eq_false (by omega), Bool.false_and]
  · rw [show decide (4 = 2) = false from rfl, Bool.and_false]; unfold pRz; rw [if_neg (by decide), if_neg (by decide), if_neg (by decide), if_neg (by decide), if_pos rfl, decide_eq_false (by omega), Bool.false_and]
  · rw [show decide (5 = 2) = false from rfl, Bool.and_false]; unfold pRz; rw [if_neg (by decide), if_neg (by decide), if_neg (by decide), if_neg (by decide), if_neg (by decide), if_pos rfl, if_neg (by omega)]
theorem pRz_33 (hx : x.1 = 33) (e : Nat) (he : e < 6) : pRz G σ x h u e = ((pRz G σ x h u 0 && decide (e = 0)) || (pRz G σ x h u 1 && decide (e = 1)) || (false && decide (e = 5))) := by
  rcases e_6 he with rfl | rfl | rfl | rfl | rfl | rfl
  · simp
  · simp
  · simp; unfold pRz; simp [hx]
  · simp; unfold pRz; simp [hx]
  · simp; unfold pRz; simp [hx]
  · simp; unfold pRz; simp [hx]
theorem pRz_34 (hx : x.1 = 34) (e : Nat) (he : e < 6) : pRz G σ x h u e = ((pRz G σ x h u 0 && decide (e = 0)) || (pRz G σ x h u 1 && decide (e = 1)) || (pRz G σ x h u 5 && decide (e = 5))) := by
  rcases e_6 he with rfl | rfl | rfl | rfl | rfl | rfl
  · simp
  · simp
  · simp; unfold pRz; simp [hx]
  · simp; unfold pRz; simp [hx]
  · simp; unfold pRz; simp [hx]
  · simp
/-- instructions that add nothing -/
theorem pCo_n (hx : x.1 ≠ 30 ∧ x.1 ≠ 31 ∧ x.1 ≠ 34 ∧ x.1 ≠ 36 ∧ x.1 ≠ 42) (k : Nat) : pCo G σ x h u k = none := by
  unfold pCo
  rw [if_neg hx.1, if_neg hx.2.1, if_neg hx.2.2.1, if_neg hx.2.2.2.1, if_neg hx.2.2.2.2]
theorem oLe_n (o : Option jW) : oLe none o := fun w q => by cases q
theorem lkI_e (hQ : Q = 13 ∨ Q = 49) {S S' : nk_S} {A : jA} {W : Nat → Bool} (h2 : S'.2 = S.2) (hf : ∀ a, a ≠ 92 → a ≠ 93 → a ≠ 98 → a ≠ 99 → S'.1 a = S.1 a) (h : lkI F dn up ns us fl bl z el H lc ty m0 Q S A W σ C) : lkI F dn up ns us fl bl z el H lc ty m0 Q S' A W σ C := by
  obtain ⟨i1, i2, i3, i4, i5, i6⟩ := h
  have fr : mFr S S' := ⟨h2, fun a ha => hf a (by omega) (by omega) (by omega) (by omega)⟩
  exact ⟨cPv_m hQ fr i1, cFy_m fr i2, cAm_1 (fun c _ _ => hf c (by omega) (by omega) (by omega) (by omega)) i3, cWt_1 (fun c _ _ => hf c (by omega) (by omega) (by omega) (by omega)) i4, cGm_1 (fun c _ _ => hf c (by omega) (by omega) (by omega) (by omega)) i5, i6⟩
/-- only the row and the errors have changed -/
theorem lkH_e (hk : kX F th n dn up ns us fl bl z el H lc ty Q) {T S1 : nk_S} (hS : mFr S T) (hI : lkI F dn up ns us fl bl z el H lc ty m0 Q T A W σ C) (hf : eFr T S1) (h11 : T.1 92 11 = 0) (hno : x.1 ≠ 39 ∧ x.1 ≠ 40 ∧ x.1 ≠ 42 ∧ x.1 ≠ 43) (hco : ∀ k, pCo (dn, up, (ns, us, fl, bl, z, el), H) σ x (H i) u k = none) (hrs : cRs S1 (pFd (dn, up, (ns, us, fl, bl, z, el), H) σ x (H i) u) (pLs (dn, up, (ns, us, fl, bl, z, el), H) σ x (H i) u)) (hr : ∀ v, pGo (dn, up, (ns, us, fl, bl, z, el), H) σ x (H i) u = some v → cRw (lc i) (H i - tkX bl x + lvX bl x) S1 v) : lkH F th n dn up ns us fl bl z el H lc ty m0 Q S A W σ C i x u S1 :=
  ⟨A, W, σ, C, mFr_trans hS (mFr_e hf), lkI_e hk.1 hf.1 hf.2.1 hI, aCh_rfl, gCg_rfl, gLe_refl σ, hrs, by rw [hf.2.2 11 (by decide) (by decide)]; exact h11, (fun j w _ q => by omega), (fun k => by rw [hco k]; exact oLe_n _), (fun q => by omega), hr⟩
/-- the table has changed too -/
theorem lkH_k (hk : kX F th n dn up ns us fl bl z el H lc ty Q) {T S1 : nk_S} (hS : mFr S T) (hI : lkI F dn up ns us fl bl z el H lc ty m0 Q T A W σ C) (hf : kFr T S1) (h11 : T.1 92 11 = 0) (hno : x.1 ≠ 39 ∧ x.1 ≠ 40) {σ1 : jG} {C1 : jH} (hg : cGm S1 fl bl z σ1 C1) (hc : gCg th n σ σ1 C C1) (hp : pIn F (dn, up, (ns, us, fl, bl, z, el), H) lc ty m0 A σ1 ∧ lnI z A σ1 ∧ rsI bl σ1 ∧ gLe σ σ1) (hco : ∀ k, oLe (pCo (dn, up, (ns, us, fl, bl, z, el), H) σ x (H i) u k) (σ1.1 k)) (hen : x.1 = 42 ∨ x.1 = 43 → σ1.2.1 x.2.2.2.1 = true) (hrs : cRs S1 (pFd (dn, up, (ns, us, fl, bl, z, el), H) σ x (H i) u) (pLs (dn, up, (ns, us, fl, bl, z, el), H) σ x (H i) u)) (hr : ∀ v, pGo (dn, up, (ns, us, fl, bl, z, el), H) σ x (H i) u = some v → cRw (lc i) (H i - tkX bl x + lvX bl x) S1 v) : lkH F th n dn up ns us fl bl z el H lc ty m0 Q S A W σ C i x u S1 :=
  ⟨A, W, σ1, C1, mFr_trans hS (mFr_k hf), ⟨cPv_m hk.1 (mFr_k hf) hI.1, cFy_m (mFr_k hf) hI.2.1, cAm_1 (fun a _ _ => hf.2.1 a (by omega)) hI.2.2.1, cWt_1 (fun a _ _ => hf.2.1 a (by omega)) hI.2.2.2.1, hg, hp.1, hp.2.1, hp.2.2.1⟩, aCh_rfl, hc, hp.2.2.2, hrs, by rw [hf.2.2 11 (by decide) (by decide)]; exact h11, (fun j w _ q => by omega), hco, hen, hr⟩
/-- the row of an instruction is brought -/
def lkS (F : Int → Prop) (dn up : Int → Int) (ns : List (List Int)) (us : List Int) (fl : List (List Int × Nat × Int)) (bl : List jB) (z : jL) (el : List (Nat × Nat × Nat × Nat)) (H lc : Nat → Nat) (ty : Nat → Option (Nat → Int)) (m0 Q : Nat) (S : nk_S) (A : jA) (W : Nat → Bool) (σ : jG) (C : jH) (i : Nat) (u : jQ) (T : nk_S) : Prop := mFr S T ∧ lkI F dn up ns us fl bl z el H lc ty m0 Q T A W σ C ∧ T.1 92 11 = 0 ∧ cRs T (onS 8) noS ∧ cRw (lc i) (H i) T u
theorem c_lkS (hk : kX F th n dn up ns us fl bl z el H lc ty Q) (hI : lkI F dn up ns us fl bl z el H lc ty m0 Q S A W σ C) (hx : z.1[i]? = some x) (hb : x.2.2.2.1 < 48) (hu : A i = some u) : ∃ S1, ja_X4_bring 92 (i : Int) S = some (0, S1) ∧ lkS F dn up ns us fl bl z el H lc ty m0 Q S A W σ C i u (nk_wi (nk_wi (nk_wi S1 92 9 256) 92 10 0) 92 11 0) := by
  obtain ⟨S1, b1, b2, b3⟩ := c_bring hk.1 hI.1 hk.2.2.2.2 hx hb hI.2.2.1 hu
  obtain ⟨T, hT⟩ : ∃ T, T = nk_wi (nk_wi (nk_wi S1 92 9 256) 92 10 0) 92 11 0 := ⟨_, rfl⟩
  have tn : ∀ a, a ≠ 92 → T.1 a = S1.1 a := fun a ha => by rw [hT, wi_n ha, wi_n ha, wi_n ha]
  have t2 : T.2 = S.2 := by rw [hT]; exact b2.1
  have tS : ∀ a, a ≠ 92 → a ≠ 93 → a ≠ 98 → a ≠ 99 → T.1 a = S.1 a := fun a h1 h2 h3 h4 => by rw [tn a h1, b2.2.1 a h2 h3 h4]
  refine ⟨S1, b1, ?_⟩
  rw [← hT]
  refine ⟨⟨t2, fun a ha => tS a (by omega) (by omega) (by omega) (by omega)⟩, lkI_e hk.1 t2 tS hI, by rw [hT, wi_at, if_pos rfl], ⟨?_, ?_⟩, ?_⟩
  · rw [hT, wi_at, if_neg (by decide), wi_at, if_neg (by decide), wi_at, if_pos rfl]
    exact cI_on (e := 8) (by decide)
  · rw [hT, wi_at, if_neg (by decide), wi_at, if_pos rfl]
    exact cV_0
  · unfold cRw
    rw [tn 93 (by decide), tn 98 (by decide), tn 99 (by decide)]
    exact b3
end CFD
