/-! The reference looks at an index. -/
theorem ib_shr0 {x : Int} {n : Nat} (hn : n < 32) : ib (nk_ishr x (n : Int)) 0 = ib x n := by
  unfold ib nk_ishr
  rw [Int32.ofInt_toInt, Int32.toBitVec_shiftRight, sh_3 n hn, BitVec.sshiftRight_eq', BitVec.toNat_ofNat, Nat.mod_eq_of_lt (by omega), BitVec.getLsbD_sshiftRight]
  simp [hn]
theorem ik_one : ∀ j, j < 32 → ib 1 j = decide (j = 0) := by decide +kernel
theorem ri_bit {v : Int} {s : Nat → Bool} (hv : cI v s) {k : Nat} (hk : k < 32) : nk_iand (nk_ishr v (k : Int)) 1 = bi (s k) := by
  refine ib_ext (iR_t _) (by cases s k <;> (unfold iR bi; dsimp only; omega)) (fun j hj => ?_)
  rw [ib_and, ik_one j hj]
  by_cases c : j = 0
  · rw [c, ib_shr0 hk, hv.2 k hk]
    cases s k <;> rfl
  · rw [decide_eq_false c, Bool.and_false]
    cases hs : s k with
    | false => exact (ib_0 j hj).symm
    | true =>
      show false = ib 1 j
      rw [ik_one j hj, decide_eq_false c]
def leL (o : Option jW) : Int := match o with
  | none => 9223372036854775807
  | some l => l.2.1.1
def leM (o : Option jW) : Int := match o with
  | none => 0
  | some l => max 0 l.2.1.2
section RIX
variable {F : Int → Prop} {dn up : Int → Int} {S : nk_S} {P n : Nat} {σ : jG} {X : jQ}
/-- the lengths are looked up -/
theorem r_ixL (hT : thG F dn up) (hP : P = 122 ∨ P = 168) {r N : Nat} (hr : r < 24) (hN : N ≤ 48) (hP4 : S.1 P 4 = (N : Int)) (hG : rGm S P σ) (hk : ∀ k w, k < 54 → σ.1 (2646 + k) = some w → vBr F w ∧ w.1 = 1) (hs : cV (S.1 232 r) (X r).2.2.1) {x : Int} : ∀ (d s m : Nat), s + d = N → d < m → ∃ m', ja_X13_index_L11 m 121 P (r : Int) x (leL (fJ (fun k => σ.1 (2646 + k)) (X r).2.2.1 s)) (leM (fJ (fun k => σ.1 (2646 + k)) (X r).2.2.1 s)) (s : Int) S = ja_X13_index_b11 (ja_X13_index_L11 m') 121 P (r : Int) x (leL (fJ (fun k => σ.1 (2646 + k)) (X r).2.2.1 N)) (leM (fJ (fun k => σ.1 (2646 + k)) (X r).2.2.1 N)) (N : Int) S := by
  obtain ⟨c46, c47, c48, c49, -, -, -⟩ := jc_Pv hP
  intro d
  induction d with
  | zero =>
    intro s m h1 h2
    obtain ⟨m, rfl⟩ : ∃ q, m = q + 1 := ⟨m - 1, by omega⟩
    obtain rfl : s = N := by omega
    exact ⟨m, rfl⟩
  | succ d ih =>
    intro s m h1 h2
    obtain ⟨m, rfl⟩ : ∃ q, m = q + 1 := ⟨m - 1, by omega⟩
    have es : ∀ _ : Unit, nk_w ((s : Int) + 1) = ((s + 1 : Nat) : Int) := fun _ => w_nat1 (by omega)
    have ei : ∀ _ : Unit, nk_w (2646 + (s : Int)) = ((2646 + s : Nat) : Int) := fun _ => by
      rw [nk_w_id (z := 2646 + (s : Int)) (by omega) (by omega)]; omega
    obtain ⟨m', hm'⟩ := ih (s + 1) m (by omega) (by omega)
    refine ⟨m', ?_⟩
    show ja_X13_index_b11 (ja_X13_index_L11 m) 121 P _ _ _ _ (s : Int) S = _
    have step : ja_X13_index_b11 (ja_X13_index_L11 m) 121 P (r : Int) x (leL (fJ (fun k => σ.1 (2646 + k)) (X r).2.2.1 s)) (leM (fJ (fun k => σ.1 (2646 + k)) (X r).2.2.1 s)) (s : Int) S = ja_X13_index_L11 m 121 P (r : Int) x (leL (fJ (fun k => σ.1 (2646 + k)) (X r).2.2.1 (s + 1))) (leM (fJ (fun k => σ.1 (2646 + k)) (X r).2.2.1 (s + 1))) ((s + 1 : Nat) : Int) S := by
      unfold ja_X13_index_b11
      rw [hP4, if_neg (by omega), if_pos (in_i (N := 24) (by omega)), jc_121_29, Int.toNat_natCast, r_bit hs (by omega)]
      cases hset : (X r).2.2.1 s with
      | false =>
        rw [if_pos (show bi false = 0 from rfl), es (), lt_eq]
        have e : fJ (fun k => σ.1 (2646 + k)) (X r).2.2.1 (s + 1) = fJ (fun k => σ.1 (2646 + k)) (X r).2.2.1 s := by rw [fJ, hset, if_neg (by decide)]; cases fJ (fun k => σ.1 (2646 + k)) (X r).2.2.1 s <;> rfl
        rw [e]
      | true =>
        have g := hG.1 (2646 + s) (by omega)
        rw [show rIx (2646 + s) = 2646 + s by unfold rIx; rw [if_pos (by omega)]] at g
        rw [if_neg (show ¬ bi true = 0 by decide), ei (), if_pos (in_i (N := 3324) (by omega)), c46, Int.toNat_natCast]
        cases hv : σ.1 (2646 + s) with
        | none =>
          rw [hv] at g
          rw [if_pos g.1, es (), lt_eq]
          have e : fJ (fun k => σ.1 (2646 + k)) (X r).2.2.1 (s + 1) = fJ (fun k => σ.1 (2646 + k)) (X r).2.2.1 s := by rw [fJ, hset, if_pos rfl, hv]; cases fJ (fun k => σ.1 (2646 + k)) (X r).2.2.1 s <;> rfl
          rw [e]
        | some v =>
          rw [hv] at g
          obtain ⟨z0, z1, z2, z3⟩ := g
          obtain ⟨bv, kv⟩ := hk s v (by omega) hv
          rw [if_neg (show ¬ S.1 (P + 39) (2646 + s) = 0 by rw [z0, kv]; decide), c47, c48, z1, mnL', bd_some, z2, mxL, bd_some, es (), lt_eq]
          have hrv := rOk_iR hT (wOk_1 bv.1 kv).1
          unfold iR2 iR at hrv
          have e : leL (fJ (fun k => σ.1 (2646 + k)) (X r).2.2.1 (s + 1)) = min (leL (fJ (fun k => σ.1 (2646 + k)) (X r).2.2.1 s)) v.2.1.1 ∧ leM (fJ (fun k => σ.1 (2646 + k)) (X r).2.2.1 (s + 1)) = max (leM (fJ (fun k => σ.1 (2646 + k)) (X r).2.2.1 s)) v.2.1.2 := by
            have e0 : fJ (fun k => σ.1 (2646 + k)) (X r).2.2.1 (s + 1) = oJ (fJ (fun k => σ.1 (2646 + k)) (X r).2.2.1 s) (some v) := by rw [fJ, hset, if_pos rfl, hv]
            rw [e0]
            cases hq : fJ (fun k => σ.1 (2646 + k)) (X r).2.2.1 s with
            | none =>
              show v.2.1.1 = min 9223372036854775807 v.2.1.1 ∧ max 0 v.2.1.2 = max 0 v.2.1.2
              exact ⟨by omega, rfl⟩
            | some w0 =>
              have b0 := fJ_b (F := F) (N := 54) (K := 1) (fun k w h1 _ h3 => hk k w h1 h3) s (by omega) w0 hq
              have j1 := (wJn_b b0.1 bv (by rw [b0.2, kv])).1
              show (wJn w0 v).2.1.1 = min w0.2.1.1 v.2.1.1 ∧ max 0 (wJn w0 v).2.1.2 = max (max 0 w0.2.1.2) v.2.1.2
              rw [j1]
              exact ⟨rfl, by show max 0 (max w0.2.1.2 v.2.1.2) = _; omega⟩
          rw [e.1, e.2]
    rw [step, hm']
/-- an index is narrowed -/
def ixO (dn up : Int → Int) (X : jQ) (r s : Nat) (l : jR) : Option jQ := match kCut dn up (X s).2.1 0 (l.2 - 1) with
  | none => none
  | some q => qNr X s q (oOn (X r).2.2.2.1 12)
theorem r_ix224 (hP : P = 122 ∨ P = 168) (hT : thG F dn up) (ht : rTn S P n F) (hn : n ≤ 3079) {r s t : Nat} (hr24 : 12 ≤ r ∧ r < t) (hs24 : 12 ≤ s ∧ s < t) (hne : r ≠ s) (t24 : t ≤ 24) (hcr : ∀ k, (X r).2.2.2.1 = some k → k < 12) (hcs : ∀ k, (X s).2.2.2.1 = some k → k < 12) (hx : rX S t X) {a b : Int} (ha : 0 ≤ a ∧ a ≤ b ∧ b ≤ 2147483647) : ∃ S', ja_X13_index_b224 121 P (r : Int) (s : Int) a b S = some (bi (qNr X s (dn a, up b) (oOn (X r).2.2.2.1 12)).isSome, S') ∧ xFr S S' ∧ ∀ w, qNr X s (dn a, up b) (oOn (X r).2.2.2.1 12) = some w → rX S' t (qUp w s (wRg (X s) (dn a, up b))) := by
  obtain ⟨T1, hT1⟩ : ∃ T1, T1 = nk_wi S 230 s (dn a) := ⟨_, rfl⟩
  obtain ⟨T2, hT2⟩ : ∃ T2, T2 = nk_wi T1 231 s (up b) := ⟨_, rfl⟩
  have n2 : ∀ c, c ≠ 230 → c ≠ 231 → T2.1 c = S.1 c := fun c h1 h2 => by rw [hT2, wi_n h2, hT1, wi_n h1]
  have k2 : ∀ c k, k ≠ s → T2.1 c k = S.1 c k := fun c k h => by rw [hT2, wi_v, if_neg (fun q => h q.2), hT1, wi_v, if_neg (fun q => h q.2)]
  have v0 : T2.1 230 s = dn a := by rw [hT2, wi_n (by decide), hT1, wi_at, if_pos rfl]
  have v1 : T2.1 231 s = up b := by rw [hT2, wi_at, if_pos rfl]
  have f2 : xFr S T2 := ⟨by rw [hT2, hT1]; rfl, fun c hc => n2 c (by omega) (by omega)⟩
  have hsS := hx s hs24.2
  have hsT : rSo T2 rWk s (wRg (X s) (dn a, up b)) := by
    obtain ⟨z0, z1, z2, z3, z4, z5, z6, z7, z8⟩ := hsS
    refine ⟨?_, v0, v1, ?_, ?_, ?_, ?_, ?_, ?_⟩
    · show T2.1 229 s = _
      rw [n2 229 (by decide) (by decide)]; exact z0
    · show cV (T2.1 232 s) _
      rw [n2 232 (by decide) (by decide)]; exact z3
    · show T2.1 233 s = _
      rw [n2 233 (by decide) (by decide)]; exact z4
    · show mI (T2.1 234 s) _ 0
      rw [n2 234 (by decide) (by decide)]; exact z5
    · show mI (T2.1 235 s) _ 12
      rw [n2 235 (by decide) (by decide)]; exact z6
    · show mI (T2.1 236 s) _ 24
      rw [n2 236 (by decide) (by decide)]; exact z7
    · show mI (T2.1 237 s) _ 36
      rw [n2 237 (by decide) (by decide)]; exact z8
  have x2 : rX T2 t (qUp X s (wRg (X s) (dn a, up b))) := rX_up hx (fun c k _ _ h => k2 c k h) hsT
  have c4 : T2.1 233 s = cpI (X s).2.2.2.1 := by rw [n2 233 (by decide) (by decide)]; exact hsS.2.2.2.2.1
  unfold ja_X13_index_b224
  rw [(r_thr hP hT ht hn (v := a)).1 (by omega), bd_some, if_pos (in_i (N := 24) (by omega)), jc_121_27, jc_121_28, jc_121_30, Int.toNat_natCast, lt_eq, ← hT1, (r_thr hP hT (rTn_c (S := S) (fun c h1 h2 => by rw [hT1, wi_n (by omega)]) hP ht) hn (v := b)).2 (by omega), bd_some, lt_eq, ← hT2, lt_eq, c4]
  cases hc : (X s).2.2.2.1 with
  | none =>
    have hq : ∀ q f, qNr X s q f = some X := fun q f => by unfold qNr; rw [hc]
    rw [if_neg (show ¬ 0 ≤ cpI none by decide), hq]
    exact ⟨T2, rfl, f2, fun w q => by cases q; exact x2⟩
  | some k =>
    have hk12 := hcs k hc
    have e1 : (cpI (some k)).toNat = k := by show ((k : Int)).toNat = k; omega
    have hkS := hx k (by omega)
    have y1 : T2.1 230 k = (X k).2.1.1 := by rw [k2 230 k (by omega)]; exact hkS.2.1
    have y2 : T2.1 231 k = (X k).2.1.2 := by rw [k2 231 k (by omega)]; exact hkS.2.2.1
    obtain ⟨T3, hT3⟩ : ∃ T3, T3 = nk_wi T2 230 k (max (X k).2.1.1 (dn a)) := ⟨_, rfl⟩
    obtain ⟨T4, hT4⟩ : ∃ T4, T4 = nk_wi T3 231 k (min (X k).2.1.2 (up b)) := ⟨_, rfl⟩
    have n3 : ∀ c, c ≠ 230 → T3.1 c = T2.1 c := fun c h => by rw [hT3, wi_n h]
    have n4 : ∀ c, c ≠ 230 → c ≠ 231 → T4.1 c = T2.1 c := fun c h1 h2 => by rw [hT4, wi_n h2, n3 c h1]
    obtain ⟨T5, hT5⟩ : ∃ T5, T5 = (match (X r).2.2.2.1 with
      | none => T4
      | some m => nk_wi T4 235 k (nk_ior (S.1 235 k) (nk_ishl 1 (m : Int)))) := ⟨_, rfl⟩
    have n5 : ∀ c, c ≠ 235 → T5.1 c = T4.1 c := fun c h => by
      rw [hT5]
      cases (X r).2.2.2.1 with
      | none => rfl
      | some m => show (nk_wi _ _ _ _).1 c = _; rw [wi_n h]
    have k5 : ∀ c j, j ≠ k → T5.1 c j = T2.1 c j := fun c j h => by
      have : T5.1 c j = T4.1 c j := by
        rw [hT5]
        cases (X r).2.2.2.1 with
        | none => rfl
        | some m => show (nk_wi _ _ _ _).1 c j = _; rw [wi_v, if_neg (fun q => h q.2)]
      rw [this, hT4, wi_v, if_neg (fun q => h q.2), hT3, wi_v, if_neg (fun q => h q.2)]
    have w0 : T5.1 230 k = max (X k).2.1.1 (dn a) := by rw [n5 230 (by decide), hT4, wi_n (by decide), hT3, wi_at, if_pos rfl]
    have w1 : T5.1 231 k = min (X k).2.1.2 (up b) := by rw [n5 231 (by decide), hT4, wi_at, if_pos rfl]
    have fT5 : xFr S T5 := by
      refine ⟨?_, fun c hc => by rw [n5 c (by omega), n4 c (by omega) (by omega), n2 c (by omega) (by omega)]⟩
      have : T5.2 = T4.2 := by
        rw [hT5]
        cases (X r).2.2.2.1 <;> rfl
      rw [this, hT4, hT3, hT2, hT1]; rfl
    have m5 : mI (T5.1 235 k) (sOr (X k).2.2.2.2 (oOn (X r).2.2.2.1 12)) 12 := by
      have z6 : mI (S.1 235 k) (X k).2.2.2.2 12 := hkS.2.2.2.2.2.2.1
      rw [hT5]
      cases hcr' : (X r).2.2.2.1 with
      | none =>
        show mI (T4.1 235 k) _ 12
        rw [n4 235 (by decide) (by decide), n2 235 (by decide) (by decide)]
        exact mI_f z6 (fun j _ => by show _ = (_ || false); rw [Bool.or_false])
      | some m =>
        have hm := hcr m hcr'
        show mI ((nk_wi T4 235 k (nk_ior (S.1 235 k) (nk_ishl 1 (m : Int)))).1 235 k) _ 12
        rw [wi_at, if_pos rfl]
        refine mI_or z6 (cI_e (cI_on12 hm) (fun j => ?_))
        show decide (j = m) = (decide (j < 12) && decide (12 + j = 12 + m))
        by_cases c : j = m
        · rw [decide_eq_true c, decide_eq_true (show j < 12 by omega), decide_eq_true (show 12 + j = 12 + m by omega)]; rfl
        · rw [decide_eq_false c, decide_eq_false (show ¬ 12 + j = 12 + m by omega), Bool.and_false]
    have b336 : ja_X13_index_b336 121 (cpI (some k)) T5 = some (if min (X k).2.1.2 (up b) < max (X k).2.1.1 (dn a) then 0 else 1, T5) := by
      unfold ja_X13_index_b336
      rw [if_pos (show 0 ≤ cpI (some k) ∧ cpI (some k) < 24 by show (0 : Int) ≤ (k : Int) ∧ (k : Int) < 24; omega), jc_121_27, jc_121_28, e1, w0, w1]
      split <;> rfl
    have hp : qNr X s (dn a, up b) (oOn (X r).2.2.2.1 12) = if min (X k).2.1.2 (up b) < max (X k).2.1.1 (dn a) then none else some (qUp X k (wFc (wRg (X k) (max (X k).2.1.1 (dn a), min (X k).2.1.2 (up b))) (sOr (X k).2.2.2.2 (oOn (X r).2.2.2.1 12)))) := by
      unfold qNr
      rw [hc]
      dsimp only
      unfold kCom
      dsimp only
      by_cases c : min (X k).2.1.2 (up b) < max (X k).2.1.1 (dn a)
      · rw [if_pos c, if_pos c]
      · rw [if_neg c, if_neg c]
    have c4r : T4.1 233 r = cpI (X r).2.2.2.1 := by rw [n4 233 (by decide) (by decide), n2 233 (by decide) (by decide)]; exact (hx r hr24.2).2.2.2.2.1
    have code : (if 0 ≤ cpI (some k) then (if 0 ≤ cpI (some k) ∧ cpI (some k) < 24 then nk_bd (ja_J9_max_7cf53 (T2.1 230 (cpI (some k)).toNat) (T2.1 230 s) T2) fun r18 S19 => nk_lt (nk_wi S19 230 (cpI (some k)).toNat r18) fun S21 => nk_bd (ja_J9_min_7cf53 (S21.1 231 (cpI (some k)).toNat) (S21.1 231 s) S21) fun r23 S24 => nk_lt (nk_wi S24 231 (cpI (some k)).toNat r23) fun S26 => if 0 ≤ (r : Int) ∧ (r : Int) < 24 then (if (S26.1 233 (r : Int).toNat) < 0 then ja_X13_index_b336 121 (cpI (some k)) S26 else nk_lt (nk_wi S26 (ja_c 121 32) (cpI (some k)).toNat (nk_ior (S26.1 (ja_c 121 32) (cpI (some k)).toNat) (nk_ishl 1 (S26.1 233 (r : Int).toNat)))) fun S30 => ja_X13_index_b336 121 (cpI (some k)) S30) else none else none) else some (1, T2)) = some (if min (X k).2.1.2 (up b) < max (X k).2.1.1 (dn a) then 0 else 1, T5) := by
      rw [if_pos (show 0 ≤ cpI (some k) by show (0 : Int) ≤ (k : Int); omega), if_pos (show 0 ≤ cpI (some k) ∧ cpI (some k) < 24 by show (0 : Int) ≤ (k : Int) ∧ (k : Int) < 24; omega), e1, y1, v0, max_i, bd_some, lt_eq, ← hT3, n3 231 (by decide), y2, v1, min_i, bd_some, lt_eq, ← hT4, if_pos (in_i (N := 24) (by omega)), Int.toNat_natCast, c4r, jc_121_32]
      rw [← b336]
      cases hcr' : (X r).2.2.2.1 with
      | none =>
        rw [hcr'] at hT5
        have hT5 : T5 = T4 := hT5
        rw [if_pos (show cpI none < 0 by decide), hT5]
      | some m =>
        rw [hcr'] at hT5
        have hT5 : T5 = nk_wi T4 235 k (nk_ior (S.1 235 k) (nk_ishl 1 (m : Int))) := hT5
        rw [if_neg (show ¬ cpI (some m) < 0 by show ¬ (m : Int) < 0; omega), n4 235 (by decide) (by decide), n2 235 (by decide) (by decide), lt_eq, show cpI (some m) = (m : Int) from rfl, ← hT5]
    rw [code, hp]
    by_cases hlt : min (X k).2.1.2 (up b) < max (X k).2.1.1 (dn a)
    · rw [if_pos hlt, if_pos hlt]
      exact ⟨T5, rfl, fT5, fun w q => by cases q⟩
    · rw [if_neg hlt, if_neg hlt]
      refine ⟨T5, rfl, fT5, fun w q => ?_⟩
      cases q
      have hkT : rSo T5 rWk k (wFc (wRg (X k) (max (X k).2.1.1 (dn a), min (X k).2.1.2 (up b))) (sOr (X k).2.2.2.2 (oOn (X r).2.2.2.1 12))) := by
        obtain ⟨z0, z1, z2, z3, z4, z5, z6, z7, z8⟩ := hkS
        have nn : ∀ c, c ≠ 230 → c ≠ 231 → c ≠ 235 → T5.1 c = S.1 c := fun c h1 h2 h3 => by rw [n5 c h3, n4 c h1 h2, n2 c h1 h2]
        have oo : ∀ o, o % 12 = 0 → o ≠ 12 → ∀ j, j < 12 → (X k).2.2.2.2 (o + j) = sOr (X k).2.2.2.2 (oOn (X r).2.2.2.1 12) (o + j) := fun o h1 h2 j hj => by
          unfold sOr
          have : oOn (X r).2.2.2.1 12 (o + j) = false := by
            cases hcr' : (X r).2.2.2.1 with
            | none => rfl
            | some m =>
              have hm := hcr m hcr'
              show decide (o + j = 12 + m) = false
              rw [decide_eq_false (by omega)]
          rw [this, Bool.or_false]
        refine rSo_n (S := S) ⟨z0, z1, z2, z3, z4, z5, z6, z7, z8⟩ ?_ w0 w1 ?_ ?_ ?_ m5 ?_ ?_
        · rw [nn 229 (by decide) (by decide) (by decide)]
        · rw [nn 232 (by decide) (by decide) (by decide)]
        · rw [nn 233 (by decide) (by decide) (by decide)]
        · rw [nn 234 (by decide) (by decide) (by decide)]; exact mI_f z5 (oo 0 (by decide) (by decide))
        · rw [nn 236 (by decide) (by decide) (by decide)]; exact mI_f z7 (oo 24 (by decide) (by decide))
        · rw [nn 237 (by decide) (by decide) (by decide)]; exact mI_f z8 (oo 36 (by decide) (by decide))
      intro j hj
      by_cases d1 : j = s
      · rw [d1, qUp_at]
        exact rSo_c (fun q _ => k5 _ _ (by omega)) hsT
      · rw [qUp_ne d1]
        by_cases d2 : j = k
        · rw [d2, qUp_at]; exact hkT
        · rw [qUp_ne d2]
          exact rSo_c (fun q _ => by rw [k5 _ _ d2, k2 _ _ d1]) (hx j hj)
/-- the index is looked at -/
theorem r_index (hP : P = 122 ∨ P = 168) (hT : thG F dn up) (ht : rTn S P n F) (hn : n ≤ 3079) {r s t N : Nat} (hr24 : 12 ≤ r ∧ r < t) (hs24 : 12 ≤ s ∧ s < t) (hne : r ≠ s) (t24 : t ≤ 24) (hcr : ∀ k, (X r).2.2.2.1 = some k → k < 12) (ox : wOk F (X s)) (kx : (X s).1 = 1) (hx : rX S t X) (hN : N ≤ 48) (hP4 : S.1 P 4 = (N : Int)) (hG : rGm S P σ) (hk : ∀ k w, k < 54 → σ.1 (2646 + k) = some w → vBr F w ∧ w.1 = 1) {lw : jW} (hl : fJ (fun k => σ.1 (2646 + k)) (X r).2.2.1 N = some lw) : ∃ S', ja_X13_index 121 P (r : Int) (s : Int) S = some (bi (ixO dn up X r s lw.2.1).isSome, S') ∧ xFr (rzW (decide ((X s).2.1.1 < 0) || !pUn X r s lw.2.1) 2 S) S' ∧ ∀ w, ixO dn up X r s lw.2.1 = some w → ∃ q, rX S' t (qUp w s (wRg (X s) q)) := by
  obtain ⟨bm, hbm⟩ := big_ge 100 (by decide)
  obtain ⟨m', hm'⟩ := r_ixL (x := (s : Int)) (X := X) hT hP (r := r) (by omega) hN hP4 hG hk (hx r hr24.2).2.2.2.1 N 0 nk_big (by omega) (by omega)
  have bl := fJ_b (F := F) (N := 54) (K := 1) (fun k w h1 _ h3 => hk k w h1 h3) N (by omega) lw hl
  have rl := rOk_iR hT (wOk_1 bl.1.1 bl.2).1
  have ro := wOk_1 ox kx
  have rx := rOk_iR hT ro.1
  have rxl := ro.1.2.2
  unfold iR2 iR at rl rx
  rw [hl, show leL (some lw) = lw.2.1.1 from rfl, show leM (some lw) = max 0 lw.2.1.2 from rfl, show leL (fJ (fun k => σ.1 (2646 + k)) (X r).2.2.1 0) = 9223372036854775807 from rfl, show leM (fJ (fun k => σ.1 (2646 + k)) (X r).2.2.1 0) = 0 from rfl] at hm'
  obtain ⟨z0, z1, z2, z3, z4, z5, z6, z7, z8⟩ := hx s hs24.2
  obtain ⟨y0, y1, y2, y3, y4, y5, y6, y7, y8⟩ := hx r hr24.2
  have z1 : S.1 230 s = (X s).2.1.1 := z1
  have z2 : S.1 231 s = (X s).2.1.2 := z2
  have y4 : S.1 233 r = cpI (X r).2.2.2.1 := y4
  have z5 : mI (S.1 234 s) (X s).2.2.2.2 0 := z5
  have z6 : mI (S.1 235 s) (X s).2.2.2.2 12 := z6
  have y8 : mI (S.1 237 r) (X r).2.2.2.2 36 := y8
  -- below the length
  have b154 : ja_X13_index_b154 121 P (r : Int) (s : Int) (max 0 lw.2.1.2) S = ja_X13_index_b159 121 P (r : Int) (s : Int) (max 0 lw.2.1.2) 1 S := rfl
  have hsz : nk_iand (S.1 234 s) (S.1 237 r) = 0 ↔ exB (fun j => (X s).2.2.2.2 j && (X r).2.2.2.2 (36 + j)) 12 = false := by
    rw [cI_z (cI_and z5 y8)]
    constructor
    · intro q
      refine nf_t (fun w => ?_)
      obtain ⟨j, j1, j2⟩ := (exB_iff 12).mp w
      have := q j (by omega)
      unfold sAnd at this
      dsimp only at this
      rw [decide_eq_true j1, Bool.true_and, Bool.true_and, Nat.zero_add] at this
      rw [this] at j2; cases j2
    · intro q j hj
      unfold sAnd
      dsimp only
      by_cases c : j < 12
      · rw [decide_eq_true c, Bool.true_and, Bool.true_and, Nat.zero_add]
        refine nf_t (fun w => ?_)
        rw [(exB_iff 12).mpr ⟨j, c, w⟩] at q; cases q
      · rw [decide_eq_false c, Bool.false_and, Bool.false_and]
  have b125 : ja_X13_index_b125 121 P (r : Int) (s : Int) lw.2.1.1 (max 0 lw.2.1.2) S = ja_X13_index_b159 121 P (r : Int) (s : Int) (max 0 lw.2.1.2) (bi (exB (fun j => (X s).2.2.2.2 j && (X r).2.2.2.2 (36 + j)) 12 || decide ((X s).2.1.2 < lw.2.1.1))) S := by
    unfold ja_X13_index_b125
    rw [if_pos (in_i (N := 24) (by omega)), if_pos (in_i (N := 24) (by omega)), jc_121_31, jc_121_34, jc_121_28, Int.toNat_natCast, Int.toNat_natCast, z2]
    cases hq : exB (fun j => (X s).2.2.2.2 j && (X r).2.2.2.2 (36 + j)) 12 with
    | true => rw [if_neg (fun w => by rw [hsz.mp w] at hq; cases hq), b154]; rfl
    | false =>
      rw [if_pos (hsz.mpr hq)]
      by_cases c : (X s).2.1.2 < lw.2.1.1
      · rw [if_neg (by omega), b154, decide_eq_true c]; rfl
      · rw [if_pos (by omega), decide_eq_false c]; rfl
  have b11 : ja_X13_index_b11 (ja_X13_index_L11 m') 121 P (r : Int) (s : Int) lw.2.1.1 (max 0 lw.2.1.2) (N : Int) S = ja_X13_index_b159 121 P (r : Int) (s : Int) (max 0 lw.2.1.2) (bi (pUn X r s lw.2.1)) S := by
    unfold ja_X13_index_b11 pUn
    rw [hP4, if_pos (by omega), if_pos (in_i (N := 24) (by omega)), jc_121_30, jc_121_32, Int.toNat_natCast, y4, b125]
    cases hc : (X r).2.2.2.1 with
    | none =>
      rw [if_pos (show cpI none < 0 by decide)]
      dsimp only
      rw [Bool.false_or]
    | some k =>
      have hk12 := hcr k hc
      rw [if_neg (show ¬ cpI (some k) < 0 by show ¬ (k : Int) < 0; omega), if_pos (in_i (N := 24) (by omega)), Int.toNat_natCast, show cpI (some k) = (k : Int) from rfl, ri_bit z6 (by omega), decide_eq_true hk12, Bool.true_and, b154]
      dsimp only
      cases (X s).2.2.2.2 (12 + k) with
      | true => rw [if_pos (show bi true = 1 from rfl)]; rfl
      | false => rw [if_neg (show ¬ bi false = 1 by decide), Bool.false_or]
  -- the error
  obtain ⟨E, hE⟩ : ∃ E, E = (decide ((X s).2.1.1 < 0) || !pUn X r s lw.2.1) := ⟨_, rfl⟩
  obtain ⟨f1, f2, f3, f4, f5⟩ := rzW_f (S := S) (b := E) (c := 2)
  obtain ⟨T, hT0⟩ : ∃ T, T = rzW E 2 S := ⟨_, rfl⟩
  have b159 : ja_X13_index_b159 121 P (r : Int) (s : Int) (max 0 lw.2.1.2) (bi (pUn X r s lw.2.1)) S = ja_X13_index_b185 121 P (r : Int) (s : Int) (max 0 lw.2.1.2) T := by
    unfold ja_X13_index_b159 ja_X13_index_b175
    rw [if_pos (in_i (N := 24) (by omega)), jc_121_27, Int.toNat_natCast, z1, hT0]
    unfold rzW
    by_cases c : (X s).2.1.1 < 0
    · rw [if_pos c, lt_eq, hE, decide_eq_true c, Bool.true_or, if_pos rfl]
    · rw [if_neg c, hE, decide_eq_false c, Bool.false_or]
      cases pUn X r s lw.2.1 with
      | true => rw [if_neg (show ¬ bi true = 0 by decide), if_neg (show ¬ (!true) = true by decide)]
      | false => rw [if_pos (show bi false = 0 from rfl), lt_eq, if_pos (show (!false) = true from rfl)]
  unfold ja_X13_index
  rw [show ((0 : Nat) : Int) = 0 from rfl] at hm'
  rw [hm', b11, b159, ← hE, ← hT0]
  rw [← hT0] at f1 f2 f3 f4 f5
  unfold ja_X13_index_b185
  rw [if_pos (in_i (N := 24) (by omega)), jc_121_27, jc_121_28, Int.toNat_natCast, f4 230 (by decide), z1, max_i, bd_some, f4 231 (by decide), z2, W_id (by unfold lR; omega), mnL', bd_some]
  unfold ixO kCut
  by_cases c : max (X s).2.1.1 0 ≤ min (X s).2.1.2 (max 0 lw.2.1.2 - 1)
  · have em : max 0 lw.2.1.2 = lw.2.1.2 := by omega
    rw [em] at c ⊢
    obtain ⟨S', s1, s2, s3⟩ := r_ix224 (S := T) hP hT (rTn_c (S := S) (fun a h1 h2 => f4 a h2) hP ht) hn hr24 hs24 hne t24 hcr ox.1 (f5 hx) (a := max (X s).2.1.1 0) (b := min (X s).2.1.2 (lw.2.1.2 - 1)) (by omega)
    rw [if_pos c, if_neg (by omega)]
    dsimp only
    have eA : rAr dn up (max (X s).2.1.1 0) (min (X s).2.1.2 (lw.2.1.2 - 1)) = (dn (max (X s).2.1.1 0), up (min (X s).2.1.2 (lw.2.1.2 - 1))) := by
      unfold rAr
      rw [if_neg (by omega)]
    rw [eA]
    exact ⟨S', s1, s2, fun w q => ⟨_, s3 w q⟩⟩
  · rw [if_neg c, if_pos (by omega)]
    exact ⟨T, rfl, xFr_rfl, fun w q => by cases q⟩
end RIX
