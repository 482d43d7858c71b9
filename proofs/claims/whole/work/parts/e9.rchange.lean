/-! The reference: a local changes. -/
theorem ib_shl12 : ∀ e : Nat, e < 12 → ∀ j, j < 32 → ib (nk_ishl 1 (e : Int)) j = decide (j = e) := by decide +kernel
theorem cI_on12 {e : Nat} (he : e < 12) : cI (nk_ishl 1 (e : Int)) (onS e) := ⟨iR_t _, fun j hj => ib_shl12 e he j hj⟩
theorem mI_ch {x m : Int} {f : Nat → Bool} {o a : Nat} (ha : a < 12) (ho : o % 12 = 0) (h : mI x f o) (hm : cI m (sNo (onS a))) : mI (nk_iand x m) (fun j => f j && !decide (j % 12 = a)) o := cI_e (cI_and h hm) (fun j => by
  show ((decide (j < 12) && f (o + j)) && !decide (j = a)) = (decide (j < 12) && (f (o + j) && !decide ((o + j) % 12 = a)))
  by_cases c : j < 12
  · rw [decide_eq_true c, Bool.true_and, Bool.true_and]
    congr 2
    exact decide_eq_decide.mpr (by omega)
  · rw [decide_eq_false c, Bool.false_and, Bool.false_and, Bool.false_and])
section RCH
variable {S : nk_S}
theorem r_chS {rec2 : Nat → Int → Int → nk_S → Option (Int × nk_S)} {a s : Nat} (ha : a < 12) (hs : s < 24) {w : jW} (hw : rSo S rWk s w) : ∃ S', (if (S.1 233 s) = (a : Int) then nk_lt (nk_wi S 233 s (-1)) fun S3 => ja_X13_changing_b27 rec2 121 (a : Int) (s : Int) S3 else ja_X13_changing_b27 rec2 121 (a : Int) (s : Int) S) = rec2 121 (a : Int) ((s + 1 : Nat) : Int) S' ∧ wFo s S S' ∧ rSo S' rWk s (wCh w a) := by
  obtain ⟨z0, z1, z2, z3, z4, z5, z6, z7, z8⟩ := hw
  have es : ∀ _ : Unit, nk_w ((s : Int) + 1) = ((s + 1 : Nat) : Int) := fun _ => w_nat1 (by omega)
  obtain ⟨T, hT⟩ : ∃ T, T = if S.1 233 s = (a : Int) then nk_wi S 233 s (-1) else S := ⟨_, rfl⟩
  have n0 : ∀ c, c ≠ 233 → T.1 c = S.1 c := fun c hc => by
    rw [hT]
    split
    · rw [wi_n hc]
    · rfl
  have f0 : wFo s S T := by
    rw [hT]
    split
    · exact wFo_wi (by omega)
    · exact ⟨rfl, fun _ _ => rfl, fun _ _ _ => rfl⟩
  have e0 : (if (S.1 233 s) = (a : Int) then nk_lt (nk_wi S 233 s (-1)) fun S3 => ja_X13_changing_b27 rec2 121 (a : Int) (s : Int) S3 else ja_X13_changing_b27 rec2 121 (a : Int) (s : Int) S) = ja_X13_changing_b27 rec2 121 (a : Int) (s : Int) T := by
    rw [hT]
    split
    · rw [lt_eq]
    · rfl
  have hm := cI_not (cI_on12 ha)
  obtain ⟨m, hmm⟩ : ∃ m, m = nk_ixor (nk_ishl 1 (a : Int)) (-1) := ⟨_, rfl⟩
  rw [← hmm] at hm
  obtain ⟨T4, hT4⟩ : ∃ T4, T4 = nk_wi (nk_wi (nk_wi (nk_wi T 234 s (nk_iand (S.1 234 s) m)) 235 s (nk_iand (S.1 235 s) m)) 236 s (nk_iand (S.1 236 s) m)) 237 s (nk_iand (S.1 237 s) m) := ⟨_, rfl⟩
  have n4 : ∀ c, c < 234 → T4.1 c = T.1 c := fun c hc => by rw [hT4, wi_n (by omega), wi_n (by omega), wi_n (by omega), wi_n (by omega)]
  refine ⟨T4, ?_, ?_, ?_⟩
  · rw [e0]
    unfold ja_X13_changing_b27
    rw [← hmm, lt_eq, if_pos (in_i (N := 24) (by omega)), jc_121_31, jc_121_32, jc_121_33, jc_121_34, Int.toNat_natCast, n0 234 (by decide), lt_eq, wi_n (b := 235) (by decide), n0 235 (by decide), lt_eq, wi_n (b := 236) (by decide), wi_n (b := 236) (by decide), n0 236 (by decide), lt_eq, wi_n (b := 237) (by decide), wi_n (b := 237) (by decide), wi_n (b := 237) (by decide), n0 237 (by decide), lt_eq, ← hT4, es (), lt_eq]
  · rw [hT4]
    exact wFo_trans f0 (wFo_trans (wFo_trans (wFo_trans (wFo_wi (by omega)) (wFo_wi (by omega))) (wFo_wi (by omega))) (wFo_wi (by omega)))
  · refine ⟨?_, ?_, ?_, ?_, ?_, ?_, ?_, ?_, ?_⟩
    · show T4.1 229 s = _
      rw [n4 229 (by decide), n0 229 (by decide)]; exact z0
    · show T4.1 230 s = _
      rw [n4 230 (by decide), n0 230 (by decide)]; exact z1
    · show T4.1 231 s = _
      rw [n4 231 (by decide), n0 231 (by decide)]; exact z2
    · show cV (T4.1 232 s) _
      rw [n4 232 (by decide), n0 232 (by decide)]; exact z3
    · show T4.1 233 s = cpI (if w.2.2.2.1 = some a then none else w.2.2.2.1)
      have z4' : S.1 233 s = cpI w.2.2.2.1 := z4
      rw [n4 233 (by decide), hT, z4']
      by_cases c : w.2.2.2.1 = some a
      · rw [if_pos c, if_pos (by rw [c]; rfl), wi_at, if_pos rfl]; rfl
      · rw [if_neg c, if_neg (show ¬ cpI w.2.2.2.1 = (a : Int) from fun q => c (cpI_u.mp (show cpI w.2.2.2.1 = cpI (some a) from q)))]; exact z4'
    · show mI (T4.1 234 s) _ 0
      rw [hT4, wi_n (by decide), wi_n (by decide), wi_n (by decide), wi_at, if_pos rfl]
      exact mI_ch ha rfl z5 hm
    · show mI (T4.1 235 s) _ 12
      rw [hT4, wi_n (by decide), wi_n (by decide), wi_at, if_pos rfl]
      exact mI_ch ha rfl z6 hm
    · show mI (T4.1 236 s) _ 24
      rw [hT4, wi_n (by decide), wi_at, if_pos rfl]
      exact mI_ch ha rfl z7 hm
    · show mI (T4.1 237 s) _ 36
      rw [hT4, wi_at, if_pos rfl]
      exact mI_ch ha rfl z8 hm
theorem r_chL {a t : Nat} (ha : a < 12) (ht : t ≤ 24) {u : jQ} : ∀ (d s m : Nat) (T : nk_S), s + d = t → d < m → uFr S T → T.1 121 25 = (t : Int) → (∀ k, k < s → rSo T rWk k (wCh (u k) a)) → (∀ k, s ≤ k → k < t → rSo T rWk k (u k)) → ∃ T', ja_X13_changing_L2 m 121 (a : Int) (s : Int) T = some (0, T') ∧ uFr S T' ∧ rRw T' t (qCh u a) := by
  intro d
  induction d with
  | zero =>
    intro s m T h1 h2 fr h25 hd _
    obtain ⟨m, rfl⟩ : ∃ q, m = q + 1 := ⟨m - 1, by omega⟩
    refine ⟨T, ?_, fr, h25, fun k hk => hd k (by omega)⟩
    show ja_X13_changing_b2 _ 121 _ _ _ = _
    unfold ja_X13_changing_b2
    rw [h25, if_pos (by omega)]
  | succ d ih =>
    intro s m T h1 h2 fr h25 hd ho
    obtain ⟨m, rfl⟩ : ∃ q, m = q + 1 := ⟨m - 1, by omega⟩
    obtain ⟨T1, b1, b2, b3⟩ := r_chS (rec2 := ja_X13_changing_L2 m) ha (s := s) (by omega) (ho s (Nat.le_refl _) (by omega))
    obtain ⟨T', g1, g2⟩ := ih (s + 1) m T1 (by omega) (by omega) (uFr_trans fr ⟨b2.1, fun c h1 _ => b2.2.1 c h1, fun f _ => by rw [b2.2.1 121 (by omega)]⟩) (by rw [b2.2.1 121 (by omega)]; exact h25) (fun k hk => by
      by_cases e : k = s
      · rw [e]; exact b3
      · exact rSo_c (fun q _ => b2.2.2 _ _ e) (hd k (by omega))) (fun k k1 k2 => rSo_c (fun q _ => b2.2.2 _ _ (by omega)) (ho k (by omega) k2))
    refine ⟨T', ?_, g2⟩
    show ja_X13_changing_b2 (ja_X13_changing_L2 m) 121 _ _ _ = _
    unfold ja_X13_changing_b2
    rw [h25, if_neg (by omega), if_pos (in_i (N := 24) (by omega)), jc_121_30, Int.toNat_natCast, b1]
    exact g1
theorem r_change {a t : Nat} (ha : a < 12) (ht : t ≤ 24) {u : jQ} (hr : rRw S t u) : ∃ S', ja_X13_changing 121 (a : Int) S = some (0, S') ∧ uFr S S' ∧ rRw S' t (qCh u a) := by
  obtain ⟨bm, hbm⟩ := big_ge 100 (by decide)
  exact r_chL ha ht t 0 nk_big S (by omega) (by omega) uFr_rfl hr.1 (fun k hk => by omega) (fun k _ hk => hr.2 k hk)
end RCH
