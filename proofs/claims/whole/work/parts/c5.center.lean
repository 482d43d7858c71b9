/-! The class brings arguments to the beginning of a body. -/
section CEN
variable {F : Int → Prop} {dn up : Int → Int}
/-- the object's own site, as the class gives it -/
def cOb (l5 : Int) (ob : Option Nat) : Prop := match ob with
  | none => l5 = 0
  | some s => s < 64 ∧ cV l5 (onS s) ∧ l5 ≠ 0
theorem c_entL (hT : thG F dn up) {j lc low ar : Nat} (hj : j < 1024) (hlc : lc ≤ 12) {o : Option jQ} {y : jB} {u : jQ} {ob : Option Nat} (har : y.ps.length = ar) (hal : ar ≤ lc) (hlow : low + ar ≤ 20) {l5 : Int} (hob : cOb l5 ob) (hu2 : ob ≠ none → (u low).1 = 2) (ho : ∀ v, o = some v → ∀ k, wOk F (v k)) (hw : ∀ k, wOk F (pEn y u low ob k)) : ∀ (d s m : Nat) (nf : Bool) (S : nk_S), (∀ k, k < ar → cSt (S.1 98 (low + k)) (S.1 99 (low + k)) (u (low + k))) → (∀ v, o = some v → ∀ k, s ≤ k → k < lc → cSt (S.1 94 (j * 20 + k)) (S.1 95 (j * 20 + k)) (v k)) → (o = none → nf = true) → s + d = lc → d < m → ∃ T nf', ja_X7_enter_L29 m 93 (j : Int) (lc : Int) (low : Int) (ar : Int) l5 (bi o.isNone) (bi nf) ((j * 20 : Nat) : Int) (s : Int) S = (if nf' = true then nk_bd (ja_X7_wake 93 (j : Int) (nk_wi T 96 j 1)) (fun _ S6 => some (0, S6)) else some (0, T)) ∧ T.2 = S.2 ∧ (∀ a, a ≠ 94 → a ≠ 95 → T.1 a = S.1 a) ∧ (∀ q, ¬ (j * 20 + s ≤ q ∧ q < j * 20 + 12) → T.1 94 q = S.1 94 q ∧ T.1 95 q = S.1 95 q) ∧ (∀ k, s ≤ k → k < lc → cSt (T.1 94 (j * 20 + k)) (T.1 95 (j * 20 + k)) (nvW o (pEn y u low ob) k)) ∧ (nf' = true ↔ nf = true ∨ ∃ v k, o = some v ∧ s ≤ k ∧ k < lc ∧ wJn (v k) (pEn y u low ob k) ≠ v k) := by
  intro d
  induction d with
  | zero =>
    intro s m nf S h98 h94 hn h1 h2
    obtain ⟨m, rfl⟩ : ∃ q, m = q + 1 := ⟨m - 1, by omega⟩
    refine ⟨S, nf, ?_, rfl, fun _ _ _ => rfl, fun _ _ => ⟨rfl, rfl⟩, fun k a b => by omega, ?_⟩
    · show ja_X7_enter_b29 (ja_X7_enter_L29 m) 93 (j : Int) (lc : Int) (low : Int) (ar : Int) l5 (bi o.isNone) (bi nf) ((j * 20 : Nat) : Int) (s : Int) S = _
      unfold ja_X7_enter_b29
      rw [if_pos (by omega)]
      cases nf with
      | false => rw [if_pos (show bi false = 0 from rfl), if_neg (by decide)]
      | true => rw [if_neg (show ¬ bi true = 0 by decide), if_pos rfl, if_pos (in_i (N := 1024) (by omega)), lt_eq, jc_93_2, Int.toNat_natCast]
    · constructor
      · intro q; exact Or.inl q
      · rintro (q | ⟨u, k, -, q1, q2, -⟩)
        · exact q
        · omega
  | succ d ih =>
    intro s m nf S h98 h94 hn h1 h2
    obtain ⟨m, rfl⟩ : ∃ q, m = q + 1 := ⟨m - 1, by omega⟩
    -- what comes
    obtain ⟨v, f, hvf, hstep⟩ : ∃ v f, cSt v f (pEn y u low ob s) ∧ ja_X7_enter_L29 (m + 1) 93 (j : Int) (lc : Int) (low : Int) (ar : Int) l5 (bi o.isNone) (bi nf) ((j * 20 : Nat) : Int) (s : Int) S = nk_bd (ja_X7_joinSlot 93 ((j * 20 + s : Nat) : Int) v f (bi o.isNone) S) fun r1 S2 => ja_X7_enter_L29 m 93 (j : Int) (lc : Int) (low : Int) (ar : Int) l5 (bi o.isNone) (nk_ior (bi nf) r1) ((j * 20 : Nat) : Int) ((s + 1 : Nat) : Int) S2 := by
      have e117 : ∀ v f : Int, ja_X7_enter_b117 (ja_X7_enter_L29 m) 93 (j : Int) (lc : Int) (low : Int) (ar : Int) l5 (bi o.isNone) (bi nf) ((j * 20 : Nat) : Int) (s : Int) v f S = nk_bd (ja_X7_joinSlot 93 ((j * 20 + s : Nat) : Int) v f (bi o.isNone) S) fun r1 S2 => ja_X7_enter_L29 m 93 (j : Int) (lc : Int) (low : Int) (ar : Int) l5 (bi o.isNone) (nk_ior (bi nf) r1) ((j * 20 : Nat) : Int) ((s + 1 : Nat) : Int) S2 := by
        intro v f
        unfold ja_X7_enter_b117
        rw [wiadd (by omega), w_nat1 (by omega)]
        rfl
      have e0 : ja_X7_enter_L29 (m + 1) 93 (j : Int) (lc : Int) (low : Int) (ar : Int) l5 (bi o.isNone) (bi nf) ((j * 20 : Nat) : Int) (s : Int) S = ja_X7_enter_b29 (ja_X7_enter_L29 m) 93 (j : Int) (lc : Int) (low : Int) (ar : Int) l5 (bi o.isNone) (bi nf) ((j * 20 : Nat) : Int) (s : Int) S := rfl
      by_cases c : s < ar
      · have hin : (0 : Int) ≤ ((low + s : Nat) : Int) ∧ ((low + s : Nat) : Int) < 20 := in_i (N := 20) (by omega)
        have hcl := h98 s c
        have hb := c_bare hcl.1
        have e93 : ∀ v : Int, ja_X7_enter_b93 (ja_X7_enter_L29 m) 93 (j : Int) (lc : Int) (low : Int) (ar : Int) l5 (bi o.isNone) (bi nf) ((j * 20 : Nat) : Int) (s : Int) 1 v S = nk_bd (ja_X7_joinSlot 93 ((j * 20 + s : Nat) : Int) v (nk_land (S.1 99 (low + s)) 13510798882111488) (bi o.isNone) S) fun r1 S2 => ja_X7_enter_L29 m 93 (j : Int) (lc : Int) (low : Int) (ar : Int) l5 (bi o.isNone) (nk_ior (bi nf) r1) ((j * 20 : Nat) : Int) ((s + 1 : Nat) : Int) S2 := by
          intro v
          unfold ja_X7_enter_b93
          rw [if_neg (by decide), wiadd (by omega), if_pos hin, jc_93_5, Int.toNat_natCast, e117]
        have e29 : ja_X7_enter_b29 (ja_X7_enter_L29 m) 93 (j : Int) (lc : Int) (low : Int) (ar : Int) l5 (bi o.isNone) (bi nf) ((j * 20 : Nat) : Int) (s : Int) S = ja_X7_enter_b56 (ja_X7_enter_L29 m) 93 (j : Int) (lc : Int) (low : Int) (ar : Int) l5 (bi o.isNone) (bi nf) ((j * 20 : Nat) : Int) (s : Int) 1 S := by
          unfold ja_X7_enter_b29
          rw [if_neg (by omega), if_neg (by omega), wiadd (by omega), if_neg (by omega)]
        have e84 : ja_X7_enter_b84 (ja_X7_enter_L29 m) 93 (j : Int) (lc : Int) (low : Int) (ar : Int) l5 (bi o.isNone) (bi nf) ((j * 20 : Nat) : Int) (s : Int) 1 S = nk_bd (ja_X7_joinSlot 93 ((j * 20 + s : Nat) : Int) (S.1 98 (low + s)) (nk_land (S.1 99 (low + s)) 13510798882111488) (bi o.isNone) S) fun r1 S2 => ja_X7_enter_L29 m 93 (j : Int) (lc : Int) (low : Int) (ar : Int) l5 (bi o.isNone) (nk_ior (bi nf) r1) ((j * 20 : Nat) : Int) ((s + 1 : Nat) : Int) S2 := by
          unfold ja_X7_enter_b84
          rw [wiadd (by omega), if_pos hin, jc_93_4, Int.toNat_natCast, e93]
        have bare : cSt (S.1 98 (low + s)) (nk_land (S.1 99 (low + s)) 13510798882111488) (wBr (u (low + s))) := ⟨hb, hcl.2.1, hcl.2.2.1, hcl.2.2.2⟩
        unfold cOb at hob
        cases ob with
        | none =>
          have hob : l5 = 0 := hob
          refine ⟨_, _, ?_, by rw [e0, e29]; unfold ja_X7_enter_b56; rw [if_neg (by decide), if_pos hob, ite_self]; exact e84⟩
          unfold pEn
          rw [if_pos (by omega)]
          exact bare
        | some t =>
          obtain ⟨t1, t2, t3⟩ := hob
          by_cases c0 : s = 0
          · refine ⟨l5, _, ?_, by rw [e0, e29]; unfold ja_X7_enter_b56; rw [if_neg (by decide), if_pos (by omega), if_neg t3]; exact e93 l5⟩
            unfold pEn
            rw [if_pos (by omega)]
            dsimp only
            rw [if_pos c0]
            have hk2 := hu2 (fun q => by cases q)
            subst c0
            refine ⟨⟨hb.1, fun j' hj' => ?_⟩, (fun q => by cases q), (fun q => by cases q), fun _ => t2⟩
            rw [hb.2 j' hj']
            unfold fBt wBr wS
            dsimp only
            rw [Nat.add_zero, hk2]
          · refine ⟨_, _, ?_, by rw [e0, e29]; unfold ja_X7_enter_b56; rw [if_neg (by decide), if_neg (by omega)]; exact e84⟩
            unfold pEn
            rw [if_pos (by omega)]
            dsimp only
            rw [if_neg c0]
            exact bare
      · refine ⟨0, 0, ?_, ?_⟩
        · unfold pEn
          rw [if_neg (by omega)]
          exact cSt_U
        · rw [e0]
          unfold ja_X7_enter_b29 ja_X7_enter_b55 ja_X7_enter_b56 ja_X7_enter_b93
          rw [if_neg (by omega), if_pos (by omega), if_pos rfl, if_pos rfl]
          exact e117 0 0
    cases ho' : o with
    | none =>
      subst ho'
      have hnf := hn rfl
      subst hnf
      rw [show bi (none : Option jQ).isNone = 1 from rfl, c_jfresh (by omega), bd_some, show nk_ior (bi true) 1 = bi true by decide +kernel] at hstep
      obtain ⟨T, nf', t1, t2, t3, t4, t5, t6⟩ := ih (s + 1) m true (nk_wi (nk_wi S 94 (j * 20 + s) v) 95 (j * 20 + s) f) (fun k hk => by rw [wi_n (by decide), wi_n (by decide), wi_n (by decide), wi_n (by decide)]; exact h98 k hk) (fun u hu => by cases hu) (fun _ => rfl) (by omega) (by omega)
      refine ⟨T, nf', ?_, by rw [t2]; rfl, fun a x y => by rw [t3 a x y, wi_n y, wi_n x], fun q hq => ?_, fun k hk hr => ?_, ?_⟩
      · rw [show bi (none : Option jQ).isNone = 1 from rfl] at t1 ⊢
        rw [hstep]; exact t1
      · obtain ⟨a1, a2⟩ := t4 q (by omega)
        rw [a1, a2, wi_n (by decide), wi_at, if_neg (by omega), wi_at, if_neg (by omega), wi_n (by decide)]
        exact ⟨rfl, rfl⟩
      · by_cases c : k = s
        · subst c
          obtain ⟨a1, a2⟩ := t4 (j * 20 + k) (by omega)
          rw [a1, a2, wi_n (by decide), wi_at, if_pos rfl, wi_at, if_pos rfl]
          exact hvf
        · exact t5 k (by omega) hr
      · rw [t6]
        exact ⟨fun _ => Or.inl rfl, fun _ => Or.inl rfl⟩
    | some u0 =>
      subst ho'
      have hb0 : bi (some u0).isNone = 0 := rfl
      have hold := h94 u0 rfl s (Nat.le_refl _) (by omega)
      obtain ⟨A, c, a1, a2, a3, a4, a5, a6⟩ := c_jslot hT (p := j * 20 + s) (by omega) (ho u0 rfl s) (hw s) hvf hold
      rw [hb0, a1, bd_some, ior_b] at hstep
      obtain ⟨T, nf', t1, t2, t3, t4, t5, t6⟩ := ih (s + 1) m (nf || c) A (fun k hk => by rw [a3 98 (by decide) (by decide), a3 99 (by decide) (by decide)]; exact h98 k hk) (fun u' hu' k hk hr => by
        cases hu'
        obtain ⟨b1, b2⟩ := a4 (j * 20 + k) (by omega)
        rw [b1, b2]
        exact h94 u0 rfl k (by omega) hr) (fun q => by cases q) (by omega) (by omega)
      rw [hb0] at t1
      refine ⟨T, nf', by rw [hb0, hstep]; exact t1, by rw [t2, a2], fun a x y => by rw [t3 a x y, a3 a x y], fun q hq => ?_, fun k hk hr => ?_, ?_⟩
      · obtain ⟨b1, b2⟩ := t4 q (by omega)
        obtain ⟨b3, b4⟩ := a4 q (by omega)
        rw [b1, b2, b3, b4]
        exact ⟨rfl, rfl⟩
      · by_cases ck : k = s
        · subst ck
          obtain ⟨b1, b2⟩ := t4 (j * 20 + k) (by omega)
          rw [b1, b2]
          exact a5
        · exact t5 k (by omega) hr
      · rw [t6, Bool.or_eq_true, a6]
        constructor
        · rintro ((q | q) | ⟨u', k, q1, q2, q3, q4⟩)
          · exact Or.inl q
          · exact Or.inr ⟨u0, s, rfl, Nat.le_refl _, by omega, q⟩
          · exact Or.inr ⟨u', k, q1, by omega, q3, q4⟩
        · rintro (q | ⟨u', k, q1, q2, q3, q4⟩)
          · exact Or.inl (Or.inl q)
          · cases q1
            by_cases ck : k = s
            · subst ck; exact Or.inl (Or.inr q4)
            · exact Or.inr ⟨u0, k, rfl, by omega, q3, q4⟩
/-- the class enters a body -/
theorem c_ent (hT : thG F dn up) {H lc : Nat → Nat} {j low ar : Nat} (hj : j < 1024) (hB : ∀ i, lc i ≤ 12 ∧ H i ≤ 8) (hH : H j = 0) {A : jA} {W : Nat → Bool} {y : jB} {u : jQ} {ob : Option Nat} (har : y.ps.length = ar) (hal : ar ≤ lc j) (hlow : low + ar ≤ 20) {l5 : Int} (hob : cOb l5 ob) (hu2 : ob ≠ none → (u low).1 = 2) {S : nk_S} (hA : cAm H lc S A) (hAw : ∀ u, A j = some u → ∀ k, wOk F (u k)) (hAo : ∀ u, A j = some u → ∀ k, ¬ rel (lc j) (H j) k → u k = wU) (hw : ∀ k, wOk F (pEn y u low ob k)) (hWt : cWt S W) (h98 : ∀ k, k < ar → cSt (S.1 98 (low + k)) (S.1 99 (low + k)) (u (low + k))) : ∃ S' c, ja_X7_enter 93 (j : Int) (lc j : Int) (low : Int) (ar : Int) l5 S = some (0, S') ∧ S'.2 = S.2 ∧ (∀ a, a ≠ 94 → a ≠ 95 → a ≠ 96 → a ≠ 97 → S'.1 a = S.1 a) ∧ cAm H lc S' (aArr A j (qRs (lc j) (H j) (pEn y u low ob))) ∧ cWt S' (fun i => if i = j ∧ c = true then true else W i) ∧ (c = true ↔ aArr A j (qRs (lc j) (H j) (pEn y u low ob)) ≠ A) := by
  obtain ⟨b1, b2⟩ := hB j
  obtain ⟨bm, hbm⟩ := big_ge 100 (by decide)
  have rl : ∀ k, rel (lc j) (H j) k ↔ k < lc j := by
    intro k
    unfold rel
    omega
  have hwn : ∀ k, ¬ rel (lc j) (H j) k → qRs (lc j) (H j) (pEn y u low ob) k = wU := fun k hk => by unfold qRs; rw [if_neg hk]
  have hwe : ∀ k, rel (lc j) (H j) k → qRs (lc j) (H j) (pEn y u low ob) k = pEn y u low ob k := fun k hk => by unfold qRs; rw [if_pos hk]
  obtain ⟨T, nf, t1, t2, t3, t4, t5, t6⟩ := c_entL hT hj b1 (o := A j) (y := y) (u := u) har hal hlow hob hu2 hAw hw (lc j) 0 nk_big (A j).isNone S h98 (fun u hu k _ hk => hA.2 j u hu k ((rl k).mpr hk)) (fun q => by rw [q]; rfl) (by omega) (by omega)
  obtain ⟨S', s1, s2, s3, s4, s5, s6⟩ := c_arvE (w := qRs (lc j) (H j) (pEn y u low ob)) (nf := nf) hj hB hA hAo hwn hWt t2 t3 (fun q hq => t4 q (by omega)) (fun k hk hr => by
    have := t5 k hk ((rl k).mp hr)
    unfold nvW at this ⊢
    cases hq : A j with
    | none => rw [hq] at this; dsimp only at this ⊢; rw [hwe k hr]; exact this
    | some v => rw [hq] at this; dsimp only at this ⊢; rw [hwe k hr]; exact this) (by
    rw [t6]
    constructor
    · rintro (q | ⟨v, k, q1, q2, q3, q4⟩)
      · exact Or.inl q
      · exact Or.inr ⟨v, k, q1, q2, (rl k).mpr q3, by rw [hwe k ((rl k).mpr q3)]; exact q4⟩
    · rintro (q | ⟨v, k, q1, q2, q3, q4⟩)
      · exact Or.inl q
      · exact Or.inr ⟨v, k, q1, q2, (rl k).mp q3, by rw [hwe k q3] at q4; exact q4⟩)
  refine ⟨S', nf, ?_, s2, s3, s4, s5, s6⟩
  rw [← s1, ← t1]
  unfold ja_X7_enter ja_X7_enter_b14
  rw [if_pos (in_i (N := 1024) (by omega)), jc_93_2, Int.toNat_natCast, hA.1 j hj, lt_eq, lt_eq, wi20 hj]
  cases A j with
  | none => rw [if_pos (show bi (none : Option jQ).isSome = 0 from rfl)]; rfl
  | some u => rw [if_neg (show ¬ bi (some u).isSome = 0 from fun q => by cases q)]; rfl
end CEN
