/-! The reference uses objects: fields and types. -/
section ROC
variable {F : Int → Prop} {dn up : Int → Int} {S : nk_S} {P n : Nat} {us : List Int} {z : jL} {l : Nat} {t : Nat → Int} {h : Nat} {u : jQ}
/-- a field is read -/
theorem r_get (hP : P = 122 ∨ P = 168) (hu : ∀ k, wOk F (u k)) (h1 : 1 ≤ h) (h8 : h ≤ 8) (hr : rRw S (12 + h) u) {σ : jG} (hG : rGm S P σ) {f K : Nat} (hf : f < 48) (hk : ∀ k w, k < 54 → σ.1 (k * 48 + f) = some w → vBr F w ∧ w.1 = K) : ∃ S', ja_X13_fieldStep 121 P (f : Int) 0 S = some (bi (oB (pDr u (12 + h - 1)) fun v => oB (fJ (fun s => σ.1 (s * 48 + f)) (u (12 + h - 1)).2.2.1 54) fun l => some (qUp v (12 + h - 1) l)).isSome, S') ∧ uFr (rzW ((u (12 + h - 1)).2.2.1 62) 1 S) S' ∧ ∀ w, (oB (pDr u (12 + h - 1)) fun v => oB (fJ (fun s => σ.1 (s * 48 + f)) (u (12 + h - 1)).2.2.1 54) fun l => some (qUp v (12 + h - 1) l)) = some w → rRw S' (12 + h) w := by
  have e1 : ∀ _ : Unit, nk_w (((12 + h : Nat) : Int) - 1) = ((12 + h - 1 : Nat) : Int) := fun _ => top_w (d := 1) h8 (by omega)
  obtain ⟨T, a1, a2, a3⟩ := r_deref hu (s := 12 + h - 1) (t := 12 + h) ⟨by omega, by omega⟩ (by omega) hr.2
  obtain ⟨f1, f2, f3, f4, f5⟩ := rzW_f (S := S) (b := (u (12 + h - 1)).2.2.1 62) (c := 1)
  unfold ja_X13_fieldStep ja_X13_fieldStep_b19
  rw [if_pos rfl, hr.1, e1 (), a1, bd_some]
  cases hq : pDr u (12 + h - 1) with
  | none =>
    rw [if_pos (show bi (none : Option jQ).isSome = 0 from rfl)]
    exact ⟨T, rfl, xFr_u a2, fun w q => by cases q⟩
  | some v =>
    have x1 := a3 v hq
    have t25 : T.1 121 25 = ((12 + h : Nat) : Int) := by rw [a2.2 121 (by omega), f2]; exact hr.1
    obtain ⟨S1, b1, b2, b3, b4, b5⟩ := r_drv (F := F) hP (d := 1) (h := h) (by omega) h8 x1 (s := sAnd (u (12 + h - 1)).2.2.1 sAl) rfl (fr := f) (ap := 48) (Or.inr rfl) (by omega) (f := fun k => σ.1 (k * 48 + f)) (K := K) (fun k h1 h2 => ⟨by omega, by
      have := hG.1 (k * 48 + f) (by omega)
      rw [show rIx (k * 48 + f) = f + 48 * k by unfold rIx; rw [if_pos (by omega)]; omega] at this
      exact rVo_c (fun a h3 h4 => by rw [a2.2 a (by omega), f4 a (by omega)]) this⟩) (fun k w h1 _ h3 => hk k w h1 h3)
    rw [fJ_al 54 (Nat.le_refl _)] at b1 b4
    have b1 : ja_X13_leaveValues 121 P (f : Int) 48 (T.1 232 (12 + h - 1)) (nk_wi T 121 25 ((12 + h - 1 : Nat) : Int)) = some (bi (fJ (fun k => σ.1 (k * 48 + f)) (u (12 + h - 1)).2.2.1 54).isSome, S1) := b1
    rw [if_neg (show ¬ bi (some v).isSome = 0 from (by show ¬ (1 : Int) = 0; decide)), if_pos (in_i (N := 24) (by omega)), jc_121_29, Int.toNat_natCast, lt_eq, if_pos rfl, t25, e1 (), lt_eq, b1, bd_some, if_pos (bi_01 _)]
    rw [show 12 + h - 1 + 1 = 12 + h by omega] at b3 b5
    refine ⟨S1, ?_, uFr_trans (xFr_u a2) b2, fun w q => ?_⟩
    · cases fJ (fun s => σ.1 (s * 48 + f)) (u (12 + h - 1)).2.2.1 54 <;> rfl
    · cases hl : fJ (fun s => σ.1 (s * 48 + f)) (u (12 + h - 1)).2.2.1 54 with
      | none => rw [hl] at q; cases q
      | some lv =>
        rw [hl] at q b4
        cases q
        exact ⟨b3, b5 lv b4⟩
/-- facts of a slot that has none there stay so -/
theorem rSo_z {S : nk_S} {k : Nat} {w : jW} (hw : rSo S rWk k w) (hn : ∀ j, w.2.2.2.2 j = true → 36 ≤ j) : rSo (nk_wi (nk_wi (nk_wi S 234 k 0) 235 k 0) 236 k 0) rWk k w := by
  obtain ⟨z0, z1, z2, z3, z4, z5, z6, z7, z8⟩ := hw
  have zr : ∀ o, o + 12 ≤ 36 → mI 0 w.2.2.2.2 o := fun o ho => mI_f (mI_0 o) (fun j hj => by
    show false = _
    cases hq : w.2.2.2.2 (o + j) with
    | false => rfl
    | true => have := hn _ hq; omega)
  refine ⟨?_, ?_, ?_, ?_, ?_, ?_, ?_, ?_, ?_⟩
  · show (nk_wi (nk_wi (nk_wi S 234 k 0) 235 k 0) 236 k 0).1 229 k = _
    rw [wi_n (by decide), wi_n (by decide), wi_n (by decide)]; exact z0
  · show (nk_wi (nk_wi (nk_wi S 234 k 0) 235 k 0) 236 k 0).1 230 k = _
    rw [wi_n (by decide), wi_n (by decide), wi_n (by decide)]; exact z1
  · show (nk_wi (nk_wi (nk_wi S 234 k 0) 235 k 0) 236 k 0).1 231 k = _
    rw [wi_n (by decide), wi_n (by decide), wi_n (by decide)]; exact z2
  · show cV ((nk_wi (nk_wi (nk_wi S 234 k 0) 235 k 0) 236 k 0).1 232 k) _
    rw [wi_n (by decide), wi_n (by decide), wi_n (by decide)]; exact z3
  · show (nk_wi (nk_wi (nk_wi S 234 k 0) 235 k 0) 236 k 0).1 233 k = _
    rw [wi_n (by decide), wi_n (by decide), wi_n (by decide)]; exact z4
  · show mI ((nk_wi (nk_wi (nk_wi S 234 k 0) 235 k 0) 236 k 0).1 234 k) _ 0
    rw [wi_n (by decide), wi_n (by decide), wi_at, if_pos rfl]; exact zr 0 (by omega)
  · show mI ((nk_wi (nk_wi (nk_wi S 234 k 0) 235 k 0) 236 k 0).1 235 k) _ 12
    rw [wi_n (by decide), wi_at, if_pos rfl]; exact zr 12 (by omega)
  · show mI ((nk_wi (nk_wi (nk_wi S 234 k 0) 235 k 0) 236 k 0).1 236 k) _ 24
    rw [wi_at, if_pos rfl]; exact zr 24 (by omega)
  · show mI ((nk_wi (nk_wi (nk_wi S 234 k 0) 235 k 0) 236 k 0).1 237 k) _ 36
    rw [wi_n (by decide), wi_n (by decide), wi_n (by decide)]; exact z8
/-- the sites of a slot: are there such -/
theorem st_ex {w : jW} (h : wOk F w) {v x : Int} {s : Nat → Bool} (hv : cV v w.2.2.1) (hx : cV x s) : nk_land v x = 0 ↔ sEx (sAnd w.2.2.1 s) = false := cV_ex (cV_and hv hx) (fun j q => by
  unfold sAnd at q
  rw [Bool.and_eq_true] at q
  rcases h.2.2 with r | ⟨-, -, r⟩ | ⟨-, -, -, r⟩
  · rw [r] at q; cases q.1
  · rw [r] at q; cases q.1
  · have := r j q.1; omega)
theorem r_cast (hv : vOk F us z l t u) (h1 : 1 ≤ h) (h8 : h ≤ 8) (k2 : (u (12 + h - 1)).1 = 2) (hr : rRw S (12 + h) u) {y o : Int} {of : Nat → Bool} (hy : ja_X13_sitesBelow P y S = some (o, S)) (ho : cV o of) : ∃ S', ja_X13_ofType 121 P y 1 S = some (bi (if sEx (sAnd (u (12 + h - 1)).2.2.1 (sOr of (onS 62))) = true then qKp (qUp u (12 + h - 1) (wSt (u (12 + h - 1)) (sAnd (u (12 + h - 1)).2.2.1 (sOr of (onS 62))))) (12 + h - 1) (sAnd (u (12 + h - 1)).2.2.1 (sOr of (onS 62))) else none).isSome, S') ∧ uFr (rzW (sEx (sMi (sMi (u (12 + h - 1)).2.2.1 of) (onS 62))) 16 S) S' ∧ ∀ w, (if sEx (sAnd (u (12 + h - 1)).2.2.1 (sOr of (onS 62))) = true then qKp (qUp u (12 + h - 1) (wSt (u (12 + h - 1)) (sAnd (u (12 + h - 1)).2.2.1 (sOr of (onS 62))))) (12 + h - 1) (sAnd (u (12 + h - 1)).2.2.1 (sOr of (onS 62))) else none) = some w → rRw S' (12 + h) w := by
  have e1 : ∀ _ : Unit, nk_w (((12 + h : Nat) : Int) - 1) = ((12 + h - 1 : Nat) : Int) := fun _ => top_w (d := 1) h8 (by omega)
  obtain ⟨s, hs⟩ : ∃ s, s = 12 + h - 1 := ⟨_, rfl⟩
  rw [← hs] at k2 ⊢
  have hu := hv.1
  have h3 : cV (S.1 232 s) (u s).2.2.1 := (hr.2 s (by omega)).2.2.2.1
  obtain ⟨M, hM⟩ : ∃ M, M = sAnd (u s).2.2.1 (sOr of (onS 62)) := ⟨_, rfl⟩
  obtain ⟨E, hE⟩ : ∃ E, E = sEx (sMi (sMi (u s).2.2.1 of) (onS 62)) := ⟨_, rfl⟩
  rw [← hM, ← hE]
  obtain ⟨f1, f2, f3, f4, f5⟩ := rzW_f (S := S) (b := E) (c := 16)
  have r0 : rX (rzW E 16 S) (12 + h) u := f5 hr.2
  have r3 : cV ((rzW E 16 S).1 232 s) (u s).2.2.1 := (r0 s (by omega)).2.2.2.1
  have cM : cV (nk_land ((rzW E 16 S).1 232 s) (nk_lor o 4611686018427387904)) M := by rw [hM]; exact cV_and r3 (cV_or ho cV_62)
  obtain ⟨T, a1, a2, a3⟩ := x_keeps hu (s := s) (t := 12 + h) ⟨by omega, by omega⟩ (by omega) r0 cM
  have eM : sAnd (u s).2.2.1 M = M := by
    rw [hM]; funext j
    unfold sAnd
    cases (u s).2.2.1 j <;> rfl
  rw [eM] at a1 a3
  have eq : sEx M = true → qKp (qUp u s (wSt (u s) M)) s M = (qKp u s M).map (fun v => qUp v s (wSt (u s) M)) := fun _ => by
    unfold qKp
    rw [qUp_at]
    show (match (u s).2.2.2.1 with
      | none => _
      | some k => _) = _
    cases hc : (u s).2.2.2.1 with
    | none => rfl
    | some k =>
      have hk := hu s |>.1 k hc
      dsimp only
      rw [qUp_ne (show k ≠ s by omega)]
      split
      · show some (qUp (qUp u s (wSt (u s) M)) k (wSt (u k) (sAnd (u k).2.2.1 M))) = some (qUp (qUp u k (wSt (u k) (sAnd (u k).2.2.1 M))) s (wSt (u s) M))
        congr 1
        funext j
        unfold qUp
        by_cases c1 : j = k
        · rw [if_pos c1, if_neg (by omega), if_pos c1]
        · rw [if_neg c1]
          by_cases c2 : j = s
          · rw [if_pos c2, if_pos c2]
          · rw [if_neg c2, if_neg c2, if_neg c1]
      · rfl
  -- the end
  have b75 : ∃ S', ja_X13_ofType_b75 121 (s : Int) o (rzW E 16 S) = some (bi (if sEx M = true then qKp (qUp u s (wSt (u s) M)) s M else none).isSome, S') ∧ uFr (rzW E 16 S) S' ∧ ∀ w, (if sEx M = true then qKp (qUp u s (wSt (u s) M)) s M else none) = some w → rRw S' (12 + h) w := by
    unfold ja_X13_ofType_b75
    rw [if_pos (in_i (N := 24) (by omega)), jc_121_29, jc_121_31, jc_121_32, jc_121_33, Int.toNat_natCast, a1, bd_some]
    cases hx : sEx M with
    | false =>
      rw [if_neg (show ¬ false = true by decide), if_pos (show bi (false && (qKp u s M).isSome) = 0 from rfl)]
      exact ⟨T, rfl, xFr_u a2, fun w q => by cases q⟩
    | true =>
      rw [if_pos rfl, eq hx]
      cases hq : qKp u s M with
      | none =>
        rw [if_pos (show bi (true && (none : Option jQ).isSome) = 0 from rfl)]
        exact ⟨T, rfl, xFr_u a2, fun w q => by cases q⟩
      | some v =>
        have x1 := a3 v hx hq
        rw [if_neg (show ¬ bi (true && (some v).isSome) = 0 from (by show ¬ (1 : Int) = 0; decide)), lt_eq, lt_eq, lt_eq]
        have hz := rSo_z (x1 s (by omega)) (fun j hj => by
          rw [qUp_at] at hj
          exact hv.2.2.2 s j k2 hj)
        refine ⟨_, rfl, uFr_trans (xFr_u a2) ⟨rfl, fun a h1 _ => by rw [wi_n (by omega), wi_n (by omega), wi_n (by omega)], fun f _ => by rw [wi_n (by decide), wi_n (by decide), wi_n (by decide)]⟩, fun w q => ?_⟩
        have q : some (qUp v s (wSt (u s) M)) = some w := q
        cases q
        refine ⟨by rw [wi_n (by decide), wi_n (by decide), wi_n (by decide), a2.2 121 (by omega), f2]; exact hr.1, fun j hj => ?_⟩
        by_cases e : j = s
        · rw [e]; exact hz
        · exact rSo_c (fun q _ => by rw [wi_v, if_neg (fun r => e r.2), wi_v, if_neg (fun r => e r.2), wi_v, if_neg (fun r => e r.2)]) (x1 j hj)
  have b35 : ∀ q : Int, ja_X13_ofType_b35 121 P 1 (s : Int) o q S = ja_X13_ofType_b75 121 (s : Int) o (rzW E 16 S) := fun q => by
    unfold ja_X13_ofType_b35
    rw [if_neg (by decide), if_pos (in_i (N := 24) (by omega)), jc_121_29, Int.toNat_natCast]
    have hz : nk_land (nk_land (S.1 232 s) (nk_lxor o (-1))) (-4611686018427387905) = 0 ↔ E = false := by
      rw [hE]
      have := cV_ex (cV_and (cV_and h3 (cV_not ho)) cV_n62) (fun j q => by
        unfold sAnd at q
        rw [Bool.and_eq_true, Bool.and_eq_true] at q
        rcases (hu s).2.2 with r | ⟨-, -, r⟩ | ⟨-, -, -, r⟩
        · rw [r] at q; cases q.1.1
        · rw [r] at q; cases q.1.1
        · have := r j q.1.1; omega)
      exact this
    unfold rzW
    cases hE' : E with
    | false => rw [if_pos (hz.mpr hE'), if_neg (show ¬ false = true by decide)]
    | true => rw [if_neg (fun r => by rw [hz.mp r] at hE'; cases hE'), if_pos rfl, lt_eq]
  unfold ja_X13_ofType
  rw [hr.1, e1 (), ← hs, lt_eq, hy, bd_some, if_pos (in_i (N := 24) (by omega)), b35, b35]
  split
  · exact b75
  · exact b75
theorem r_is (hP : P = 122 ∨ P = 168) (hT : thG F dn up) (ht : rTn S P n F) (hn : n ≤ 3079) (hv : vOk F us z l t u) (h1 : 1 ≤ h) (h8 : h ≤ 8) (k2 : (u (12 + h - 1)).1 = 2) (hr : rRw S (12 + h) u) {y o : Int} {of : Nat → Bool} (hy : ja_X13_sitesBelow P y S = some (o, S)) (ho : cV o of) : ∃ S', ja_X13_ofType 121 P y 0 S = some (1, S') ∧ uFr S S' ∧ rRw S' (12 + h) (qUp u (12 + h - 1) (wR ((if sEx (sMi (u (12 + h - 1)).2.2.1 of) = true then 0 else 1), (if sEx (sAnd (u (12 + h - 1)).2.2.1 of) = true then 1 else 0)))) := by
  have e1 : ∀ _ : Unit, nk_w (((12 + h : Nat) : Int) - 1) = ((12 + h - 1 : Nat) : Int) := fun _ => top_w (d := 1) h8 (by omega)
  have hu := hv.1
  have h3 : cV (S.1 232 (12 + h - 1)) (u (12 + h - 1)).2.2.1 := (hr.2 (12 + h - 1) (by omega)).2.2.2.1
  obtain ⟨t1, t2, t3, t4, t5, t6, t7, t8⟩ := id hT
  obtain ⟨T, hT0⟩ : ∃ T, T = nk_wi S 121 25 ((12 + h - 1 : Nat) : Int) := ⟨_, rfl⟩
  have fT : uFr S T := by rw [hT0]; exact uFr_25
  have rT : rRw T (12 + h - 1) u := ⟨by rw [hT0, wi_at, if_pos rfl], by rw [hT0]; exact rX_w (rX_25 hr.2) (by omega) (fun _ _ => rfl)⟩
  have hT2 : rTn T P n F := rTn_c (fun a h1 h2 => fT.2.1 a (by omega) h2) hP ht
  have zs := st_ex (hu (12 + h - 1)) h3 ho
  have zn := st_ex (hu (12 + h - 1)) h3 (cV_not ho)
  have en : sEx (sAnd (u (12 + h - 1)).2.2.1 (sNo of)) = sEx (sMi (u (12 + h - 1)).2.2.1 of) := rfl
  -- there is something
  obtain ⟨j0, j1⟩ := (wOk_2 (hu (12 + h - 1)) k2).2.1
  have j63 : j0 < 63 := by have := (wOk_2 (hu (12 + h - 1)) k2).2.2 j0 j1; omega
  have some1 : sEx (sAnd (u (12 + h - 1)).2.2.1 of) = true ∨ sEx (sMi (u (12 + h - 1)).2.2.1 of) = true := by
    cases hq : of j0 with
    | true => exact Or.inl (sEx_iff.mpr ⟨j0, j63, by unfold sAnd; rw [j1, hq]; rfl⟩)
    | false => exact Or.inr (sEx_iff.mpr ⟨j0, j63, by unfold sMi; rw [j1, hq]; rfl⟩)
  have lv : ∀ a b : Int, F a → F b → a ≤ b → ∃ S', ja_X13_leaveRange 121 P a b T = some (0, S') ∧ uFr S S' ∧ rRw S' (12 + h) (qUp u (12 + h - 1) (wR (a, b))) := fun a b fa fb hab => by
    obtain ⟨S', s1, s2, s3⟩ := r_lv hP hT hT2 hn (t := 12 + h - 1) (by omega) rT hab
    have ra := t1 a fa
    have rb := t1 b fb
    have eA : rAr dn up a b = (a, b) := by
      unfold rAr
      rw [if_neg (by omega), (dnF_s hT fa).1, (dnF_s hT fb).2]
    rw [eA, show 12 + h - 1 + 1 = 12 + h by omega] at s3
    exact ⟨S', s1, uFr_trans fT s2, s3⟩
  unfold ja_X13_ofType
  rw [hr.1, e1 (), lt_eq, hy, bd_some, if_pos (in_i (N := 24) (by omega)), jc_121_29, Int.toNat_natCast]
  rw [en] at zn
  have b35 : ∀ q : Int, ja_X13_ofType_b35 121 P 0 ((12 + h - 1 : Nat) : Int) o q S = if nk_land (S.1 232 (12 + h - 1)) (nk_lxor o (-1)) = 0 then ja_X13_ofType_b174 q 0 121 P 1 T else ja_X13_ofType_b174 q 1 121 P 0 T := fun q => by
    unfold ja_X13_ofType_b35 ja_X13_ofType_b150
    rw [if_pos rfl, if_pos (in_i (N := 24) (by omega)), jc_121_29, Int.toNat_natCast, hr.1, e1 (), lt_eq, lt_eq, ← hT0, if_pos rfl, if_neg (show ¬ (1 : Int) = 0 by decide)]
  rw [b35, b35]
  cases hs : sEx (sAnd (u (12 + h - 1)).2.2.1 of) with
  | false =>
    have hm := some1.resolve_left (by rw [hs]; decide)
    rw [hm] at zn
    obtain ⟨S', s1, s2, s3⟩ := lv 0 0 t4 t4 (Int.le_refl _)
    rw [if_pos (zs.mpr hs), if_neg (fun r => by cases zn.mp r)]
    unfold ja_X13_ofType_b174 ja_X13_ofType_b184
    rw [if_pos rfl, s1, bd_some, if_pos rfl, if_neg (by decide), hm, if_pos rfl, if_neg (by decide)]
    exact ⟨S', rfl, s2, s3⟩
  | true =>
    rw [if_neg (fun r => by rw [zs.mp r] at hs; cases hs)]
    cases hm : sEx (sMi (u (12 + h - 1)).2.2.1 of) with
    | false =>
      obtain ⟨S', s1, s2, s3⟩ := lv 1 1 t5 t5 (Int.le_refl _)
      rw [if_pos (zn.mpr hm)]
      unfold ja_X13_ofType_b174 ja_X13_ofType_b184
      rw [if_neg (by decide), s1, bd_some, if_neg (by decide), if_neg (by decide), if_pos rfl]
      exact ⟨S', rfl, s2, s3⟩
    | true =>
      obtain ⟨S', s1, s2, s3⟩ := lv 0 1 t4 t5 (by decide)
      rw [if_neg (fun r => by rw [zn.mp r] at hm; cases hm)]
      unfold ja_X13_ofType_b174 ja_X13_ofType_b184
      rw [if_neg (by decide), s1, bd_some, if_neg (by decide), if_pos rfl]
      exact ⟨S', rfl, s2, s3⟩
end ROC
