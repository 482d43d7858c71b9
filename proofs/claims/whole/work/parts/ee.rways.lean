/-! The reference goes both ways of a comparison. -/
theorem lk_n62 : ∀ j, j < 64 → lb (-4611686018427387905) j = sNo (onS 62) j := by decide +kernel
theorem cV_62 : cV 4611686018427387904 (onS 62) := ⟨by unfold lR; decide, lk_62⟩
theorem cV_n62 : cV (-4611686018427387905) (sNo (onS 62)) := ⟨by unfold lR; decide, lk_n62⟩
section RWA
variable {F : Int → Prop} {dn up : Int → Int} {S : nk_S} {P n : Nat} {us : List Int} {z : jL} {l : Nat} {t : Nat → Int}
theorem rX_w {S : nk_S} {t t' : Nat} {u w : jQ} (h : rX S t u) (hl : t' ≤ t) (he : ∀ k, k < t' → u k = w k) : rX S t' w := fun k hk => by rw [← he k hk]; exact h k (by omega)
/-- the height of the working row is set -/
theorem rX_25 {S : nk_S} {t : Nat} {u : jQ} {v : Int} (h : rX S t u) : rX (nk_wi S 121 25 v) t u := fun k hk => rSo_c (fun q hq => by rw [wi_n (by unfold rWk; omega)]) (h k hk)
theorem uFr_25 {S : nk_S} {v : Int} : uFr S (nk_wi S 121 25 v) := ⟨rfl, fun a _ h => wi_n h, fun f h => by rw [wi_at, if_neg h]⟩
theorem at_25 {S S' : nk_S} {v : Int} (h : xFr (nk_wi S 121 25 v) S') : S'.1 121 25 = v := by rw [h.2 121 (by omega), wi_at, if_pos rfl]
theorem sAnd_al {w : jW} (h : wOk F w) : sAnd w.2.2.1 (sNo (onS 62)) = sAnd w.2.2.1 sAl := by
  funext j
  show (w.2.2.1 j && !decide (j = 62)) = (w.2.2.1 j && decide (j < 54))
  cases hj : w.2.2.1 j with
  | false => rfl
  | true =>
    rw [Bool.true_and, Bool.true_and]
    rcases h.2.2 with q | ⟨-, -, q⟩ | ⟨-, -, -, q⟩
    · rw [q] at hj; cases hj
    · rw [q] at hj; cases hj
    · rcases q j hj with r | r
      · rw [decide_eq_true r, decide_eq_false (show ¬ j = 62 by omega)]; rfl
      · rw [decide_eq_true r, decide_eq_false (show ¬ j < 54 by omega)]; rfl
theorem qKp_al {u : jQ} (h : ∀ k, wOk F (u k)) (s : Nat) : qKp u s (sNo (onS 62)) = qKp u s sAl := by
  unfold qKp
  cases (u s).2.2.2.1 with
  | none => rfl
  | some k =>
    dsimp only
    rw [sAnd_al (h k)]
theorem top_w {h d : Nat} (h8 : h ≤ 8) (hd : d ≤ 12) : nk_w (((12 + h : Nat) : Int) - (d : Int)) = ((12 + h - d : Nat) : Int) := by
  rw [nk_w_id (z := ((12 + h : Nat) : Int) - (d : Int)) (by omega) (by omega)]
  omega
theorem r_way2 {h : Nat} {v : jQ} (hv : vOk F us z l t v) (h2 : 2 ≤ h) (h8 : h ≤ 8) (k2 : (v (12 + h - 2)).1 = 1) (hr : rRw S (12 + h) v) : ∃ S', ja_X13_way_b243 121 ((12 + h - 1 : Nat) : Int) ((12 + h - 2 : Nat) : Int) S = some (bi (oB (qPs v (12 + h - 2)) fun v => qPs v (12 + h - 1)).isSome, S') ∧ uFr S S' ∧ ∀ w, (oB (qPs v (12 + h - 2)) fun v => qPs v (12 + h - 1)) = some w → rRw S' (12 + h - 2) w := by
  have e2 : ∀ _ : Unit, nk_w (((12 + h : Nat) : Int) - 2) = ((12 + h - 2 : Nat) : Int) := fun _ => top_w (d := 2) h8 (by omega)
  obtain ⟨T, hT⟩ : ∃ T, T = nk_wi S 121 25 ((12 + h - 2 : Nat) : Int) := ⟨_, rfl⟩
  have xT : rX T (12 + h) v := by rw [hT]; exact rX_25 hr.2
  have fT : uFr S T := by rw [hT]; exact uFr_25
  obtain ⟨T1, a1, a2, a3⟩ := x_toL hv.1 (s := 12 + h - 2) (t := 12 + h) ⟨by omega, by omega⟩ (by omega) xT
  unfold ja_X13_way_b243
  rw [hr.1, e2 (), lt_eq, ← hT, a1, bd_some]
  cases hq : qPs v (12 + h - 2) with
  | none =>
    rw [if_pos (show bi (none : Option jQ).isSome = 0 from rfl)]
    exact ⟨T1, rfl, uFr_trans fT (xFr_u a2), fun w q => by cases q⟩
  | some v1 =>
    have x1 := a3 v1 hq
    have ok1 := qPs_ok hv k2 hq
    obtain ⟨T2, b1, b2, b3⟩ := x_toL ok1.1 (s := 12 + h - 1) (t := 12 + h) ⟨by omega, by omega⟩ (by omega) x1
    rw [if_neg (show ¬ bi (some v1).isSome = 0 from (by show ¬ (1 : Int) = 0; decide)), b1, bd_some]
    have f2 : uFr S T2 := uFr_trans (uFr_trans fT (xFr_u a2)) (xFr_u b2)
    have h25 : T2.1 121 25 = ((12 + h - 2 : Nat) : Int) := at_25 (S := S) (by rw [← hT]; exact xFr_trans a2 b2)
    show ∃ S', _ = some (bi (qPs v1 (12 + h - 1)).isSome, S') ∧ uFr S S' ∧ ∀ w, qPs v1 (12 + h - 1) = some w → _
    cases hq2 : qPs v1 (12 + h - 1) with
    | none =>
      rw [if_pos (show bi (none : Option jQ).isSome = 0 from rfl)]
      exact ⟨T2, rfl, f2, fun w q => by cases q⟩
    | some w =>
      rw [if_neg (show ¬ bi (some w).isSome = 0 from (by show ¬ (1 : Int) = 0; decide))]
      refine ⟨T2, rfl, f2, fun w' q => ?_⟩
      cases q
      exact ⟨h25, rX_w (b3 w hq2) (by omega) (fun _ _ => rfl)⟩
theorem r_wayC {h : Nat} (h2 : 2 ≤ h) (h8 : h ≤ 8) {o : Option jQ} {S1 : nk_S} (f1 : uFr S S1) (ho : ∀ w, o = some w → rRw S1 (12 + h) w ∧ vOk F us z l t w ∧ (w (12 + h - 2)).1 = 1) : ∃ S', (if bi o.isSome = 0 then some (0, S1) else ja_X13_way_b243 121 ((12 + h - 1 : Nat) : Int) ((12 + h - 2 : Nat) : Int) S1) = some (bi (oB o fun v => oB (qPs v (12 + h - 2)) fun v => qPs v (12 + h - 1)).isSome, S') ∧ uFr S S' ∧ ∀ w, (oB o fun v => oB (qPs v (12 + h - 2)) fun v => qPs v (12 + h - 1)) = some w → rRw S' (12 + h - 2) w := by
  cases o with
  | none =>
    rw [if_pos (show bi (none : Option jQ).isSome = 0 from rfl)]
    exact ⟨S1, rfl, f1, fun w q => by cases q⟩
  | some v =>
    obtain ⟨q1, q2, q3⟩ := ho v rfl
    rw [if_neg (show ¬ bi (some v).isSome = 0 from (by show ¬ (1 : Int) = 0; decide))]
    obtain ⟨S', a1, a2, a3⟩ := r_way2 q2 h2 h8 q3 q1
    exact ⟨S', a1, uFr_trans f1 a2, a3⟩
/-- keeping sites, the slot popped -/
theorem r_wayK {h d : Nat} (hd : d = 1 ∨ d = 2) (h2 : d ≤ h) (h8 : h ≤ 8) {u : jQ} (hu : ∀ k, wOk F (u k)) (hr : rX S (12 + h) u) {x : Int} {K : Nat → Bool} (hx : cV x K) : ∃ S', ja_X13_keeps 121 ((12 + h - d : Nat) : Int) x S = some (bi (if sEx (sAnd (u (12 + h - d)).2.2.1 K) = true then qKp u (12 + h - d) K else none).isSome, S') ∧ xFr S S' ∧ ∀ w, (if sEx (sAnd (u (12 + h - d)).2.2.1 K) = true then qKp u (12 + h - d) K else none) = some w → rX S' (12 + h) (qUp w (12 + h - d) (wSt (u (12 + h - d)) (sAnd (u (12 + h - d)).2.2.1 K))) := by
  obtain ⟨S', a1, a2, a3⟩ := x_keeps hu (s := 12 + h - d) (t := 12 + h) ⟨by omega, by omega⟩ (by omega) hr hx
  refine ⟨S', ?_, a2, fun w q => ?_⟩
  · rw [a1]
    cases hs : sEx (sAnd (u (12 + h - d)).2.2.1 K) with
    | false => rw [if_neg (by decide)]; rfl
    | true => rw [if_pos rfl]; rfl
  · cases hs : sEx (sAnd (u (12 + h - d)).2.2.1 K) with
    | false => rw [hs, if_neg (by decide)] at q; cases q
    | true => rw [hs, if_pos rfl] at q; exact a3 w hs q
theorem qKp_up {u : jQ} {s a : Nat} {K : Nat → Bool} {x : jW} (ha : a ≠ s) (h12 : ∀ k, (u s).2.2.2.1 = some k → k ≠ a) : qKp (qUp u a x) s K = (qKp u s K).map (fun v => qUp v a x) := by
  unfold qKp
  rw [qUp_ne (show s ≠ a from fun q => ha q.symm)]
  cases hc : (u s).2.2.2.1 with
  | none => rfl
  | some k =>
    have hk := h12 k hc
    dsimp only
    rw [qUp_ne hk]
    split
    · show some (qUp (qUp u a x) k (wSt (u k) (sAnd (u k).2.2.1 K))) = some (qUp (qUp u k (wSt (u k) (sAnd (u k).2.2.1 K))) a x)
      congr 1
      funext j
      unfold qUp
      by_cases c1 : j = k
      · rw [if_pos c1, if_neg (by rw [c1]; exact hk), if_pos c1]
      · rw [if_neg c1]
        by_cases c2 : j = a
        · rw [if_pos c2, if_pos c2]
        · rw [if_neg c2, if_neg c2, if_neg c1]
    · rfl
theorem r_way (hP : P = 122 ∨ P = 168) (hT : thG F dn up) (ht : rTn S P n F) (hn : n ≤ 3079) {h op : Nat} (hop : 20 ≤ op ∧ op ≤ 29) {u : jQ} (hv : vOk F us z l t u) (hd : pKw op h u) (h8 : h ≤ 8) (h2 : (if op = 26 ∨ op = 27 then 1 else 2) ≤ h) (hr : rRw S (12 + h) u) : ∃ S', ja_X13_way 121 P (op : Int) S = some (bi (pWy dn up op u h).isSome, S') ∧ uFr S S' ∧ ∀ w, pWy dn up op u h = some w → rRw S' (12 + h - (if op = 26 ∨ op = 27 then 1 else 2)) w := by
  have e1 : ∀ _ : Unit, nk_w (((12 + h : Nat) : Int) - 1) = ((12 + h - 1 : Nat) : Int) := fun _ => top_w (d := 1) h8 (by omega)
  have e2 : ∀ _ : Unit, nk_w (((12 + h : Nat) : Int) - 2) = ((12 + h - 2 : Nat) : Int) := fun _ => top_w (d := 2) h8 (by omega)
  have t1 := hT.1
  have rk : ∀ k, (u k).1 = 1 → rOk F (u k).2.1 := fun k q => (wOk_1 (hv.1 k) q).1
  have ri : ∀ k, (u k).1 = 1 → iR (u k).2.1.1 ∧ iR (u k).2.1.2 ∧ (u k).2.1.1 ≤ (u k).2.1.2 := fun k q => ⟨F_iR hT (rk k q).1, F_iR hT (rk k q).2.1, (rk k q).2.2⟩
  unfold ja_X13_way
  rw [hr.1, e1 (), e2 (), lt_eq, lt_eq]
  by_cases c25 : op ≤ 25
  · rw [if_neg (show ¬ (op = 26 ∨ op = 27) by omega)] at h2 ⊢
    obtain ⟨k1, k2⟩ := hd.1 c25
    have ne : 12 + h - 2 ≠ 12 + h - 1 := by omega
    have pw : pWy dn up op u h = oB (if op = 20 then pEq u (12 + h - 2) (12 + h - 1) else if op = 21 then pNe dn up u (12 + h - 2) (12 + h - 1) else if op = 22 then pOrd dn up u (12 + h - 2) (12 + h - 1) true else if op = 23 then pOrd dn up u (12 + h - 2) (12 + h - 1) false else if op = 24 then pOrd dn up u (12 + h - 1) (12 + h - 2) true else pOrd dn up u (12 + h - 1) (12 + h - 2) false) fun v => oB (qPs v (12 + h - 2)) fun v => qPs v (12 + h - 1) := by
      unfold pWy
      rw [if_pos c25]
    rw [pw]
    by_cases c20 : op = 20
    · rw [if_pos (show (op : Int) = 20 by omega), if_pos c20]
      obtain ⟨S1, a1, a2, a3⟩ := r_alike (t := 12 + h) (a := 12 + h - 2) (b := 12 + h - 1) (by omega) (by omega) ne (by omega) hr
      rw [a1, bd_some]
      exact r_wayC (F := F) (us := us) (z := z) (l := l) (t := t) (by omega) h8 a2 (fun w q => ⟨a3 w q, pEq_ok hv k2 k1 q, by rw [(pEq_k q).1]; exact k2⟩)
    rw [if_neg (show ¬ (op : Int) = 20 by omega), if_neg c20]
    by_cases c21 : op = 21
    · rw [if_pos (show (op : Int) = 21 by omega), if_pos c21]
      obtain ⟨S1, a1, a2, a3⟩ := r_apart hP hT ht hn (t := 12 + h) (a := 12 + h - 2) (b := 12 + h - 1) (by omega) (by omega) ne (by omega) hr (ri _ k2) (ri _ k1)
      unfold ja_X13_way_b230
      rw [a1, bd_some]
      exact r_wayC (F := F) (us := us) (z := z) (l := l) (t := t) (by omega) h8 a2 (fun w q => ⟨a3 w q, pNe_ok hT hv k2 k1 q, by rw [(pNe_k q).1]; exact k2⟩)
    rw [if_neg (show ¬ (op : Int) = 21 by omega), if_neg c21]
    have less : ∀ b : Bool, ∃ S', ja_X13_way_b186 121 ((12 + h - 1 : Nat) : Int) ((12 + h - 2 : Nat) : Int) 121 P ((12 + h - 2 : Nat) : Int) ((12 + h - 1 : Nat) : Int) (bi b) S = some (bi (oB (pOrd dn up u (12 + h - 2) (12 + h - 1) b) fun v => oB (qPs v (12 + h - 2)) fun v => qPs v (12 + h - 1)).isSome, S') ∧ uFr S S' ∧ ∀ w, (oB (pOrd dn up u (12 + h - 2) (12 + h - 1) b) fun v => oB (qPs v (12 + h - 2)) fun v => qPs v (12 + h - 1)) = some w → rRw S' (12 + h - 2) w := fun b => by
      obtain ⟨S1, a1, a2, a3⟩ := r_order hP hT ht hn (t := 12 + h) (a := 12 + h - 2) (b := 12 + h - 1) hv.1 (by omega) (by omega) ne (by omega) hr (rk _ k2) (rk _ k1) b
      unfold ja_X13_way_b186
      rw [a1, bd_some]
      exact r_wayC (F := F) (us := us) (z := z) (l := l) (t := t) (by omega) h8 a2 (fun w q => ⟨a3 w q, pOrd_ok hT hv k2 k1 q, by rw [(pOrd_k q).1]; exact k2⟩)
    have more : ∀ b : Bool, ∃ S', ja_X13_way_b210 121 ((12 + h - 1 : Nat) : Int) ((12 + h - 2 : Nat) : Int) 121 P ((12 + h - 1 : Nat) : Int) ((12 + h - 2 : Nat) : Int) (bi b) S = some (bi (oB (pOrd dn up u (12 + h - 1) (12 + h - 2) b) fun v => oB (qPs v (12 + h - 2)) fun v => qPs v (12 + h - 1)).isSome, S') ∧ uFr S S' ∧ ∀ w, (oB (pOrd dn up u (12 + h - 1) (12 + h - 2) b) fun v => oB (qPs v (12 + h - 2)) fun v => qPs v (12 + h - 1)) = some w → rRw S' (12 + h - 2) w := fun b => by
      obtain ⟨S1, a1, a2, a3⟩ := r_order hP hT ht hn (t := 12 + h) (a := 12 + h - 1) (b := 12 + h - 2) hv.1 (by omega) (by omega) (fun q => ne q.symm) (by omega) hr (rk _ k1) (rk _ k2) b
      unfold ja_X13_way_b210
      rw [a1, bd_some]
      exact r_wayC (F := F) (us := us) (z := z) (l := l) (t := t) (by omega) h8 a2 (fun w q => ⟨a3 w q, pOrd_ok hT hv k1 k2 q, by rw [(pOrd_k q).1]; exact k2⟩)
    by_cases c22 : op = 22
    · rw [if_pos (show (op : Int) = 22 by omega), if_pos c22]
      unfold ja_X13_way_b170
      rw [if_pos (show (op : Int) = 22 by omega)]
      exact less true
    rw [if_neg (show ¬ (op : Int) = 22 by omega), if_neg c22]
    by_cases c23 : op = 23
    · rw [if_pos (show (op : Int) = 23 by omega), if_pos c23]
      unfold ja_X13_way_b170
      rw [if_neg (show ¬ (op : Int) = 22 by omega)]
      exact less false
    rw [if_neg (show ¬ (op : Int) = 23 by omega), if_neg c23]
    by_cases c24 : op = 24
    · rw [if_pos (show (op : Int) = 24 by omega), if_pos c24]
      unfold ja_X13_way_b194
      rw [if_pos (show (op : Int) = 24 by omega)]
      exact more true
    rw [if_neg (show ¬ (op : Int) = 24 by omega), if_neg c24, if_pos (show (op : Int) = 25 by omega)]
    unfold ja_X13_way_b194
    rw [if_neg (show ¬ (op : Int) = 24 by omega)]
    exact more false
  · rw [if_neg (show ¬ (op : Int) = 20 by omega), if_neg (show ¬ (op : Int) = 21 by omega), if_neg (show ¬ (op : Int) = 22 by omega), if_neg (show ¬ (op : Int) = 23 by omega), if_neg (show ¬ (op : Int) = 24 by omega), if_neg (show ¬ (op : Int) = 25 by omega)]
    have kp : ∀ (x : Int) (K : Nat → Bool), cV x K → 1 ≤ h → ∃ S', ja_X13_way_b99 121 ((12 + h - 1 : Nat) : Int) x (nk_wi S 121 25 ((12 + h - 1 : Nat) : Int)) = some (bi (if sEx (sAnd (u (12 + h - 1)).2.2.1 K) = true then qKp u (12 + h - 1) K else none).isSome, S') ∧ uFr S S' ∧ ∀ w, (if sEx (sAnd (u (12 + h - 1)).2.2.1 K) = true then qKp u (12 + h - 1) K else none) = some w → rRw S' (12 + h - 1) w := fun x K hx h1 => by
      obtain ⟨S', a1, a2, a3⟩ := r_wayK (d := 1) (Or.inl rfl) h1 h8 hv.1 (rX_25 (v := ((12 + h - 1 : Nat) : Int)) hr.2) hx
      unfold ja_X13_way_b99
      rw [a1, bd_some, if_pos (bi_01 _)]
      exact ⟨S', rfl, uFr_trans uFr_25 (xFr_u a2), fun w q => ⟨at_25 a2, rX_w (a3 w q) (by omega) (fun k hk => qUp_ne (by omega))⟩⟩
    by_cases c26 : op = 26
    · rw [if_pos (show (op : Int) = 26 by omega)]
      rw [if_pos (Or.inl c26)] at h2 ⊢
      unfold ja_X13_way_b72
      rw [hr.1, e1 (), lt_eq, if_pos (show (op : Int) = 26 by omega)]
      have pw : pWy dn up op u h = if sEx (sAnd (u (12 + h - 1)).2.2.1 (onS 62)) = true then qKp u (12 + h - 1) (onS 62) else none := by
        unfold pWy
        rw [if_neg c25, if_pos (Or.inl c26), if_pos c26]
      rw [pw]
      exact kp _ _ cV_62 h2
    rw [if_neg (show ¬ (op : Int) = 26 by omega)]
    by_cases c27 : op = 27
    · rw [if_pos (show (op : Int) = 27 by omega)]
      rw [if_pos (Or.inr c27)] at h2 ⊢
      unfold ja_X13_way_b72
      rw [hr.1, e1 (), lt_eq, if_neg (show ¬ (op : Int) = 26 by omega)]
      have pw : pWy dn up op u h = if sEx (sAnd (u (12 + h - 1)).2.2.1 (sNo (onS 62))) = true then qKp u (12 + h - 1) (sNo (onS 62)) else none := by
        unfold pWy
        rw [if_neg c25, if_pos (Or.inr c27), if_neg c26, sAnd_al (hv.1 _), qKp_al hv.1]
      rw [pw]
      exact kp _ _ cV_n62 h2
    rw [if_neg (show ¬ (op : Int) = 27 by omega)]
    rw [if_neg (show ¬ (op = 26 ∨ op = 27) by omega)] at h2 ⊢
    obtain ⟨T, hT0⟩ : ∃ T, T = nk_wi S 121 25 ((12 + h - 2 : Nat) : Int) := ⟨_, rfl⟩
    have xT : rX T (12 + h) u := by rw [hT0]; exact rX_25 hr.2
    have fT : uFr S T := by rw [hT0]; exact uFr_25
    by_cases c28 : op = 28
    · rw [if_pos (show (op : Int) = 28 by omega)]
      unfold ja_X13_way_b103
      rw [hr.1, e2 (), lt_eq, if_neg (show ¬ (op : Int) = 29 by omega), ← hT0, if_pos (in_i (N := 24) (by omega)), if_pos (in_i (N := 24) (by omega)), jc_121_29, Int.toNat_natCast, Int.toNat_natCast]
      obtain ⟨K, hK⟩ : ∃ K, K = sAnd (u (12 + h - 2)).2.2.1 (u (12 + h - 1)).2.2.1 := ⟨_, rfl⟩
      have pw : pWy dn up op u h = if sEx K = true then oB (qKp u (12 + h - 2) K) (fun v => qKp v (12 + h - 1) K) else none := by
        unfold pWy
        rw [if_neg c25, if_neg (show ¬ (op = 26 ∨ op = 27) by omega), if_pos c28, ← hK]
      have cK : cV (nk_land (T.1 232 (12 + h - 2)) (T.1 232 (12 + h - 1))) K := by rw [hK]; exact cV_and (xT (12 + h - 2) (by omega)).2.2.2.1 (xT (12 + h - 1) (by omega)).2.2.2.1
      obtain ⟨S1, a1, a2, a3⟩ := r_wayK (d := 2) (Or.inr rfl) h2 h8 hv.1 xT cK
      have eK : sAnd (u (12 + h - 2)).2.2.1 K = K := by
        rw [hK]; funext j
        unfold sAnd
        cases (u (12 + h - 2)).2.2.1 j <;> rfl
      have eK1 : sAnd (u (12 + h - 1)).2.2.1 K = K := by
        rw [hK]; funext j
        unfold sAnd
        cases (u (12 + h - 2)).2.2.1 j <;> cases (u (12 + h - 1)).2.2.1 j <;> rfl
      rw [eK] at a1 a3
      rw [a1, bd_some, pw]
      cases hs : sEx K with
      | false =>
        rw [hs] at a1 a3
        rw [if_neg (show ¬ false = true by decide), if_pos (show bi (none : Option jQ).isSome = 0 from rfl)]
        exact ⟨S1, rfl, uFr_trans fT (xFr_u a2), fun w q => by cases q⟩
      | true =>
        rw [hs] at a3
        rw [if_pos rfl, if_pos rfl]
        cases hq : qKp u (12 + h - 2) K with
        | none =>
          rw [if_pos (show bi (none : Option jQ).isSome = 0 from rfl)]
          exact ⟨S1, rfl, uFr_trans fT (xFr_u a2), fun w q => by cases q⟩
        | some v =>
          rw [if_neg (show ¬ bi (some v).isSome = 0 from (by show ¬ (1 : Int) = 0; decide))]
          have x1 := a3 v (by rw [if_pos rfl]; exact hq)
          obtain ⟨v2, v3⟩ := qKp_at hv.2.1 hq
          have okv := qKp_ok hv (hd.2.2 (Or.inl c28)).2 hq
          obtain ⟨u2, hu2⟩ : ∃ u2, u2 = qUp v (12 + h - 2) (wSt (u (12 + h - 2)) K) := ⟨_, rfl⟩
          rw [← hu2] at x1
          have ub : u2 (12 + h - 1) = u (12 + h - 1) := by rw [hu2, qUp_ne (by omega), v2 _ (by omega)]
          have ua : (u2 (12 + h - 2)).2.2.1 = K := by rw [hu2, qUp_at]; rfl
          have cK2 : cV (nk_land (S1.1 232 (12 + h - 2)) (S1.1 232 (12 + h - 1))) K := by
            have q1 := (x1 (12 + h - 2) (by omega)).2.2.2.1
            have q2 := (x1 (12 + h - 1) (by omega)).2.2.2.1
            rw [ua] at q1
            rw [ub] at q2
            have := cV_and q1 q2
            rw [show sAnd K (u (12 + h - 1)).2.2.1 = K by
              rw [hK]; funext j
              unfold sAnd
              cases (u (12 + h - 2)).2.2.1 j <;> cases (u (12 + h - 1)).2.2.1 j <;> rfl] at this
            exact this
          have ok2 : ∀ k, wOk F (u2 k) := fun k => by
            rw [hu2]
            by_cases e : k = 12 + h - 2
            · rw [e, qUp_at]
              have w0 := wOk_2 (hv.1 (12 + h - 2)) (hd.2.2 (Or.inl c28)).2
              obtain ⟨j, j1, j2⟩ := sEx_iff.mp hs
              refine ⟨(hv.1 (12 + h - 2)).1, (hv.1 (12 + h - 2)).2.1, Or.inr (Or.inr ⟨(hd.2.2 (Or.inl c28)).2, w0.1, ⟨j, j2⟩, fun j q => w0.2.2 j ?_⟩)⟩
              have q : K j = true := q
              rw [hK] at q
              unfold sAnd at q
              rw [Bool.and_eq_true] at q
              exact q.1
            · rw [qUp_ne e]; exact okv.1 k
          obtain ⟨S2, b1, b2, b3⟩ := r_wayK (d := 1) (Or.inl rfl) (by omega) h8 ok2 x1 cK2
          rw [ub, eK1, hs, if_pos rfl] at b1 b3
          have eq2 : qKp u2 (12 + h - 1) K = (qKp v (12 + h - 1) K).map (fun w => qUp w (12 + h - 2) (wSt (u (12 + h - 2)) K)) := by
            rw [hu2]
            refine qKp_up (by omega) (fun k hk => ?_)
            rw [v2 _ (by omega)] at hk
            have := (hv.1 _).1 k hk
            omega
          rw [eq2] at b1 b3
          rw [b1, bd_some]
          have f2 : uFr S S2 := uFr_trans (uFr_trans fT (xFr_u a2)) (xFr_u b2)
          have h25 : S2.1 121 25 = ((12 + h - 2 : Nat) : Int) := at_25 (S := S) (by rw [← hT0]; exact xFr_trans a2 b2)
          show ∃ S', _ = some (bi (qKp v (12 + h - 1) K).isSome, S') ∧ uFr S S' ∧ ∀ w, qKp v (12 + h - 1) K = some w → _
          cases hq2 : qKp v (12 + h - 1) K with
          | none =>
            exact ⟨S2, rfl, f2, fun w q => by cases q⟩
          | some w =>
            refine ⟨S2, rfl, f2, fun w' q => ?_⟩
            cases q
            have := b3 _ (by rw [hq2]; rfl)
            exact ⟨h25, rX_w this (by omega) (fun k hk => by
              rw [qUp_ne (by omega)]
              show qUp w (12 + h - 2) _ k = w k
              rw [qUp_ne (by omega)])⟩
    · have c29 : op = 29 := by omega
      rw [if_neg (show ¬ (op : Int) = 28 by omega), if_pos (show (op : Int) = 29 by omega)]
      unfold ja_X13_way_b103
      rw [hr.1, e2 (), lt_eq, if_pos (show (op : Int) = 29 by omega), ← hT0]
      have pw : pWy dn up op u h = some u := by
        unfold pWy
        rw [if_neg c25, if_neg (show ¬ (op = 26 ∨ op = 27) by omega), if_neg c28]
      rw [pw]
      refine ⟨T, rfl, fT, fun w q => ?_⟩
      cases q
      exact ⟨by rw [hT0, wi_at, if_pos rfl], rX_w xT (by omega) (fun _ _ => rfl)⟩
end RWA
