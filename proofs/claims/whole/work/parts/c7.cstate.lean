/-! The class works on a row. -/
def wFr (S S' : nk_S) : Prop := S'.2 = S.2 ∧ (∀ a, a ≠ 93 → a ≠ 98 → a ≠ 99 → S'.1 a = S.1 a) ∧ ∀ f, f ≠ 6 → f ≠ 7 → S'.1 93 f = S.1 93 f
theorem wFr_rfl {S : nk_S} : wFr S S := ⟨rfl, fun _ _ _ _ => rfl, fun _ _ _ => rfl⟩
theorem wFr_trans {S1 S2 S3 : nk_S} (h : wFr S1 S2) (k : wFr S2 S3) : wFr S1 S3 := ⟨k.1.trans h.1, fun a x y z => (k.2.1 a x y z).trans (h.2.1 a x y z), fun i x y => (k.2.2 i x y).trans (h.2.2 i x y)⟩
theorem wFr_98 {S : nk_S} (k : Nat) (x : Int) : wFr S (nk_wi S 98 k x) := ⟨rfl, fun a _ y _ => by rw [wi_n y], fun f _ _ => by rw [wi_n (by decide)]⟩
theorem wFr_99 {S : nk_S} (k : Nat) (x : Int) : wFr S (nk_wi S 99 k x) := ⟨rfl, fun a _ _ z => by rw [wi_n z], fun f _ _ => by rw [wi_n (by decide)]⟩
theorem wFr_7 {S : nk_S} (x : Int) : wFr S (nk_wi S 93 7 x) := ⟨rfl, fun a y _ _ => by rw [wi_n y], fun f _ h => by rw [wi_at, if_neg h]⟩
section CSW
variable {F : Int → Prop} {dn up : Int → Int} {lc h : Nat} {S : nk_S} {u : jQ}
/-- a slot is written -/
theorem cRw_up (hr : cRw lc h S u) {k : Nat} {v f : Int} {w : jW} (hw : cSt v f w) {T : nk_S} (t6 : T.1 93 6 = S.1 93 6) (t7 : T.1 93 7 = S.1 93 7) (t8 : ∀ i, T.1 98 i = if i = k then v else S.1 98 i) (t9 : ∀ i, T.1 99 i = if i = k then f else S.1 99 i) : cRw lc h T (qUp u k w) := by
  refine ⟨by rw [t6]; exact hr.1, by rw [t7]; exact hr.2.1, fun i hi => ?_⟩
  rw [t8, t9]
  unfold qUp
  by_cases c : i = k
  · rw [if_pos c, if_pos c, if_pos c]; exact hw
  · rw [if_neg c, if_neg c, if_neg c]; exact hr.2.2 i hi
theorem c_push (hr : cRw lc h S u) (h8 : h < 8) {v f : Int} {w : jW} (hw : cSt v f w) : ∃ S', ja_X7_push 93 v f S = some (0, S') ∧ wFr S S' ∧ cRw lc (h + 1) S' (qUp u (12 + h) w) := by
  obtain ⟨r1, r2, r3⟩ := hr
  refine ⟨nk_wi (nk_wi (nk_wi S 98 (12 + h) v) 99 (12 + h) f) 93 7 ((h + 1 : Nat) : Int), ?_, wFr_trans (wFr_98 _ _) (wFr_trans (wFr_99 _ _) (wFr_7 _)), ?_⟩
  · unfold ja_X7_push
    have e1 : (nk_wi S 98 (12 + h) v).1 93 7 = (h : Int) := by rw [wi_n (by decide)]; exact r2
    have e2 : (nk_wi (nk_wi S 98 (12 + h) v) 99 (12 + h) f).1 93 7 = (h : Int) := by rw [wi_n (by decide), wi_n (by decide)]; exact r2
    rw [r2, if_neg (by omega), wi12 (by omega), if_pos (in_i (N := 20) (by omega)), lt_eq, jc_93_4, Int.toNat_natCast, e1, wi12 (by omega), if_pos (in_i (N := 20) (by omega)), lt_eq, jc_93_5, Int.toNat_natCast, lt_eq, e2, w_nat1 (by omega)]
  · refine ⟨by rw [wi_at, if_neg (by decide), wi_n (by decide), wi_n (by decide)]; exact r1, by rw [wi_at, if_pos rfl], fun i hi => ?_⟩
    rw [wi_n (by decide), wi_n (by decide), wi_at, wi_n (by decide), wi_at, wi_n (by decide)]
    unfold qUp
    by_cases c : i = 12 + h
    · rw [if_pos c, if_pos c, if_pos c]; exact hw
    · rw [if_neg c, if_neg c, if_neg c]; exact r3 i (by unfold rel at hi ⊢; omega)
theorem c_drop (hr : cRw lc h S u) {n : Nat} (hn : n ≤ h) (h8 : h ≤ 8) : ∃ S', ja_X7_drop 93 (n : Int) S = some (0, S') ∧ wFr S S' ∧ cRw lc (h - n) S' u := by
  obtain ⟨r1, r2, r3⟩ := hr
  refine ⟨nk_wi S 93 7 ((h - n : Nat) : Int), ?_, wFr_7 _, ?_⟩
  · unfold ja_X7_drop
    rw [r2, wisub hn (by omega), lt_eq]
  · refine ⟨by rw [wi_at, if_neg (by decide)]; exact r1, by rw [wi_at, if_pos rfl], fun i hi => ?_⟩
    rw [wi_n (by decide), wi_n (by decide)]
    exact r3 i (by unfold rel at hi ⊢; omega)
theorem c_top (hr : cRw lc h S u) {n : Nat} (hn : n < h) (h8 : h ≤ 8) : ja_X7_fromTop 93 (n : Int) S = some (((12 + h - 1 - n : Nat) : Int), S) := by
  unfold ja_X7_fromTop
  rw [hr.2.1, wi12 (by omega), show ((12 + h : Nat) : Int) - 1 = ((12 + h : Nat) : Int) - ((1 : Nat) : Int) by omega, wisub (by omega) (by omega), wisub (by omega) (by omega)]
/-- a local changes -/
theorem c_chgL (hw : ∀ k, wOk F (u k)) {a : Nat} (ha : a < 12) (h8 : h ≤ 8) (hlc : lc ≤ 12) {m0 : Int} (hm : cV m0 (fun j => !(decide (j < 48) && decide (j % 12 = a)))) : ∀ (d s m : Nat) (T : nk_S), T.1 93 6 = (lc : Int) → T.1 93 7 = (h : Int) → (∀ k, rel lc h k → k < s → cSt (T.1 98 k) (T.1 99 k) (wCh (u k) a)) → (∀ k, rel lc h k → s ≤ k → cSt (T.1 98 k) (T.1 99 k) (u k)) → s + d = 12 + h → d < m → ∃ T', ja_X7_change_L13 m 93 (a : Int) m0 (s : Int) T = some (0, T') ∧ wFr T T' ∧ T'.1 93 = T.1 93 ∧ T'.1 98 = T.1 98 ∧ ∀ k, rel lc h k → cSt (T'.1 98 k) (T'.1 99 k) (wCh (u k) a) := by
  intro d
  induction d with
  | zero =>
    intro s m T h6 h7 hlo hhi h1 h2
    obtain ⟨m, rfl⟩ : ∃ q, m = q + 1 := ⟨m - 1, by omega⟩
    refine ⟨T, ?_, wFr_rfl, rfl, rfl, fun k hk => hlo k hk (by unfold rel at hk; omega)⟩
    show ja_X7_change_b13 (ja_X7_change_L13 m) 93 (a : Int) m0 (s : Int) T = _
    unfold ja_X7_change_b13
    rw [h7, wi12 (by omega), if_pos (by omega)]
  | succ d ih =>
    intro s m T h6 h7 hlo hhi h1 h2
    obtain ⟨m, rfl⟩ : ∃ q, m = q + 1 := ⟨m - 1, by omega⟩
    have e0 : ja_X7_change_L13 (m + 1) 93 (a : Int) m0 (s : Int) T = if (s : Int) < (lc : Int) then ja_X7_change_b41 (ja_X7_change_L13 m) 93 (a : Int) m0 (s : Int) T else if (s : Int) < 12 then ja_X7_change_L13 m 93 (a : Int) m0 ((s + 1 : Nat) : Int) T else ja_X7_change_b41 (ja_X7_change_L13 m) 93 (a : Int) m0 (s : Int) T := by
      show ja_X7_change_b13 (ja_X7_change_L13 m) 93 (a : Int) m0 (s : Int) T = _
      unfold ja_X7_change_b13
      rw [h7, wi12 (by omega), if_neg (by omega), h6, w_nat1 (by omega)]
      rfl
    by_cases hrel : rel lc h s
    · have hs := hhi s hrel (Nat.le_refl _)
      have e41 : ja_X7_change_L13 (m + 1) 93 (a : Int) m0 (s : Int) T = ja_X7_change_b41 (ja_X7_change_L13 m) 93 (a : Int) m0 (s : Int) T := by
        rw [e0]
        by_cases c : s < lc
        · rw [if_pos (by omega)]
        · rw [if_neg (by omega), if_neg (by unfold rel at hrel; omega)]
      obtain ⟨c1, c2⟩ := c_chg hs.1 hm
      obtain ⟨f, hf, hstep⟩ : ∃ f, cV f (fBt (wCh (u s) a)) ∧ ja_X7_change_L13 (m + 1) 93 (a : Int) m0 (s : Int) T = ja_X7_change_L13 m 93 (a : Int) m0 ((s + 1 : Nat) : Int) (nk_wi T 99 s f) := by
        rw [e41]
        unfold ja_X7_change_b41
        rw [if_pos (in_i (N := 20) (by unfold rel at hrel; omega)), jc_93_5, Int.toNat_natCast, c_copy (hw s).1 hs.1, bd_some, w_nat1 (by omega)]
        by_cases c : (u s).2.2.2.1 = some a
        · rw [if_pos (by rw [c]; show ((a + 1 : Nat) : Int) - 1 = (a : Int); omega), lt_eq, lt_eq]
          exact ⟨_, c2 c, rfl⟩
        · have hne : ¬ ((oN (u s).2.2.2.1 : Int) - 1 = (a : Int)) := by
            intro q
            apply c
            apply oN_inj
            show oN (u s).2.2.2.1 = a + 1
            omega
          rw [if_neg hne, lt_eq, lt_eq]
          exact ⟨_, c1 c, rfl⟩
      obtain ⟨T', t1, t2, t3, t4, t5⟩ := ih (s + 1) m (nk_wi T 99 s f) (by rw [wi_n (by decide)]; exact h6) (by rw [wi_n (by decide)]; exact h7) (fun k hk hks => by
        rw [wi_n (by decide), wi_at]
        by_cases c : k = s
        · rw [if_pos c, c]
          exact ⟨hf, hs.2.1, hs.2.2.1, hs.2.2.2⟩
        · rw [if_neg c]; exact hlo k hk (by omega)) (fun k hk hks => by
        rw [wi_n (by decide), wi_at, if_neg (by omega)]
        exact hhi k hk (by omega)) (by omega) (by omega)
      exact ⟨T', by rw [hstep]; exact t1, wFr_trans (wFr_99 _ _) t2, by rw [t3, wi_n (by decide)], by rw [t4, wi_n (by decide)], t5⟩
    · rw [if_neg (by unfold rel at hrel; omega), if_pos (by unfold rel at hrel; omega)] at e0
      obtain ⟨T', t1, t2, t3, t4, t5⟩ := ih (s + 1) m T h6 h7 (fun k hk hks => hlo k hk (by
        by_cases c : k = s
        · rw [c] at hk; exact absurd hk hrel
        · omega)) (fun k hk hks => hhi k hk (by omega)) (by omega) (by omega)
      exact ⟨T', by rw [e0]; exact t1, t2, t3, t4, t5⟩
theorem c_change (hr : cRw lc h S u) (hw : ∀ k, wOk F (u k)) {a : Nat} (ha : a < 12) (h8 : h ≤ 8) (hlc : lc ≤ 12) : ∃ S', ja_X7_change 93 (a : Int) S = some (0, S') ∧ wFr S S' ∧ cRw lc h S' (qCh u a) := by
  obtain ⟨bm, hbm⟩ := big_ge 100 (by decide)
  obtain ⟨T, t1, t2, t3, t4, t5⟩ := c_chgL (lc := lc) (h := h) hw ha h8 hlc (c_mask ha) (12 + h) 0 nk_big S hr.1 hr.2.1 (fun k _ q => by omega) (fun k hk _ => hr.2.2 k hk) (by omega) (by omega)
  refine ⟨T, ?_, t2, by rw [t3]; exact hr.1, by rw [t3]; exact hr.2.1, t5⟩
  unfold ja_X7_change
  rw [lt_eq]
  exact t1
theorem c_swap (hr : cRw lc h S u) (h2 : 2 ≤ h) (h8 : h ≤ 8) : ∃ S', ja_X7_swap 93 S = some (0, S') ∧ wFr S S' ∧ cRw lc h S' (qUp (qUp u (12 + h - 1) (u (12 + h - 2))) (12 + h - 2) (u (12 + h - 1))) := by
  obtain ⟨r1, r2, r3⟩ := id hr
  have e1 : nk_w (nk_w (12 + S.1 93 7) - 1) = ((12 + h - 1 : Nat) : Int) := by
    rw [r2, wi12 (by omega), show ((12 + h : Nat) : Int) - 1 = ((12 + h : Nat) : Int) - ((1 : Nat) : Int) by omega, wisub (by omega) (by omega)]
  have e2 : nk_w (((12 + h - 1 : Nat) : Int) - 1) = ((12 + h - 2 : Nat) : Int) := by
    rw [show ((12 + h - 1 : Nat) : Int) - 1 = ((12 + h - 1 : Nat) : Int) - ((1 : Nat) : Int) by omega, wisub (by omega) (by omega)]
    congr 1
  refine ⟨nk_wi (nk_wi (nk_wi (nk_wi S 98 (12 + h - 1) (S.1 98 (12 + h - 2))) 99 (12 + h - 1) (S.1 99 (12 + h - 2))) 98 (12 + h - 2) (S.1 98 (12 + h - 1))) 99 (12 + h - 2) (S.1 99 (12 + h - 1)), ?_, wFr_trans (wFr_98 _ _) (wFr_trans (wFr_99 _ _) (wFr_trans (wFr_98 _ _) (wFr_99 _ _))), ?_⟩
  · unfold ja_X7_swap
    rw [lt_eq, e1]
    clear e1
    rw [e2]
    clear e2
    have e3 : (nk_wi S 98 (12 + h - 1) (S.1 98 (12 + h - 2))).1 99 = S.1 99 := wi_n (by decide)
    rw [if_pos (in_i (N := 20) (by omega)), lt_eq, lt_eq, if_pos (in_i (N := 20) (by omega)), lt_eq, lt_eq, lt_eq, lt_eq, jc_93_4, jc_93_5, Int.toNat_natCast, Int.toNat_natCast, e3]
  · clear e1 e2
    have s1 := r3 (12 + h - 1) (by unfold rel; omega)
    have s2 := r3 (12 + h - 2) (by unfold rel; omega)
    have a1 := cRw_up hr s2 (k := 12 + h - 1) (T := nk_wi (nk_wi S 98 (12 + h - 1) (S.1 98 (12 + h - 2))) 99 (12 + h - 1) (S.1 99 (12 + h - 2))) (by rw [wi_n (by decide), wi_n (by decide)]) (by rw [wi_n (by decide), wi_n (by decide)]) (fun i => by rw [wi_n (by decide), wi_at]) (fun i => by rw [wi_at, wi_n (by decide)])
    exact cRw_up a1 s1 (k := 12 + h - 2) (by rw [wi_n (by decide), wi_n (by decide)]) (by rw [wi_n (by decide), wi_n (by decide)]) (fun i => by rw [wi_n (by decide), wi_at]) (fun i => by rw [wi_at, wi_n (by decide)])
theorem c_store (hr : cRw lc h S u) (hw : ∀ k, wOk F (u k)) {a : Nat} (ha : a < lc) (h1 : 1 ≤ h) (h8 : h ≤ 8) (hlc : lc ≤ 12) : ∃ S', ja_X7_storeTop 93 (a : Int) S = some (0, S') ∧ wFr S S' ∧ cRw lc (h - 1) S' (qUp (qCh u a) a (wCp (wCh (u (12 + h - 1)) a) none)) := by
  obtain ⟨T, t1, t2, t3⟩ := c_change hr hw (show a < 12 by omega) h8 hlc
  have st := t3.2.2 (12 + h - 1) (by unfold rel; omega)
  have hf : cSt (T.1 98 (12 + h - 1)) (nk_land (T.1 99 (12 + h - 1)) (-4222124650659841)) (wCp (wCh (u (12 + h - 1)) a) none) := ⟨c_noC st.1, st.2.1, st.2.2.1, st.2.2.2⟩
  have hup := cRw_up t3 hf (k := a) (T := nk_wi (nk_wi T 98 a (T.1 98 (12 + h - 1))) 99 a (nk_land (T.1 99 (12 + h - 1)) (-4222124650659841))) (by rw [wi_n (by decide), wi_n (by decide)]) (by rw [wi_n (by decide), wi_n (by decide)]) (fun i => by rw [wi_n (by decide), wi_at]) (fun i => by rw [wi_at, wi_n (by decide)])
  refine ⟨nk_wi (nk_wi (nk_wi T 98 a (T.1 98 (12 + h - 1))) 99 a (nk_land (T.1 99 (12 + h - 1)) (-4222124650659841))) 93 7 ((h - 1 : Nat) : Int), ?_, wFr_trans t2 (wFr_trans (wFr_98 _ _) (wFr_trans (wFr_99 _ _) (wFr_7 _))), ?_⟩
  · unfold ja_X7_storeTop
    have e1 : nk_w (nk_w (12 + T.1 93 7) - 1) = ((12 + h - 1 : Nat) : Int) := by
      rw [t3.2.1, wi12 (by omega), show ((12 + h : Nat) : Int) - 1 = ((12 + h : Nat) : Int) - ((1 : Nat) : Int) by omega, wisub (by omega) (by omega)]
    have e2 : (nk_wi (nk_wi T 98 a (T.1 98 (12 + h - 1))) 99 a (nk_land (T.1 99 (12 + h - 1)) (-4222124650659841))).1 93 7 = (h : Int) := by rw [wi_n (by decide), wi_n (by decide)]; exact t3.2.1
    have e3 : (nk_wi T 98 a (T.1 98 (12 + h - 1))).1 99 = T.1 99 := wi_n (by decide)
    have e4 : nk_w ((h : Int) - 1) = ((h - 1 : Nat) : Int) := by
      rw [show (h : Int) - 1 = (h : Int) - ((1 : Nat) : Int) by omega, wisub (by omega) (by omega)]
    rw [t1, bd_some, lt_eq, e1]
    clear e1
    rw [if_pos (in_i (N := 20) (by omega)), if_pos (in_i (N := 20) (by omega)), lt_eq, lt_eq, lt_eq, jc_93_4, jc_93_5, Int.toNat_natCast, Int.toNat_natCast, e3, e2, e4]
  · refine ⟨by rw [wi_at, if_neg (by decide)]; exact hup.1, by rw [wi_at, if_pos rfl], fun i hi => ?_⟩
    rw [wi_n (by decide), wi_n (by decide)]
    exact hup.2.2 i (by unfold rel at hi ⊢; omega)
theorem st_z {s K : Nat → Bool} {w : jW} (ho : wOk F w) (h2 : w.1 = 2) {x : Int} (hx : cV x (sAnd w.2.2.1 K)) : x = 0 ↔ sEx (sAnd w.2.2.1 K) = false := by
  rw [cV_z hx]
  constructor
  · intro q
    cases e : sEx (sAnd w.2.2.1 K) with
    | false => rfl
    | true =>
      obtain ⟨j, j1, j2⟩ := sEx_iff.mp e
      rw [q j (by omega)] at j2; cases j2
  · intro q j hj
    cases e : sAnd w.2.2.1 K j with
    | false => rfl
    | true =>
      have hw := sAnd_l _ _ j e
      have := (wOk_2 ho h2).2.2 j hw
      have : sEx (sAnd w.2.2.1 K) = true := sEx_iff.mpr ⟨j, by omega, e⟩
      rw [this] at q; cases q
/-- the local that is copied keeps sites -/
theorem c_keep (hr : cRw lc h S u) (hw : ∀ k, wOk F (u k)) (hc : qCp lc u) {s : Nat} (hs : rel lc h s) (h2 : (u s).1 = 2) (hs20 : s < 20) {x : Int} {K : Nat → Bool} (hx : cV x K) : ∃ S', ja_X7_keepSites 93 (s : Int) x S = some (bi (qKp u s K).isSome, S') ∧ wFr S S' ∧ ∀ v, qKp u s K = some v → cRw lc h S' v := by
  have hsl := hr.2.2 s hs
  unfold ja_X7_keepSites qKp
  rw [if_pos (in_i (N := 20) (by omega)), jc_93_5, Int.toNat_natCast, c_copy (hw s).1 hsl.1, bd_some]
  cases hcp : (u s).2.2.2.1 with
  | none =>
    rw [show oN none = 0 from rfl, if_neg (by decide)]
    refine ⟨S, rfl, wFr_rfl, fun v hv => ?_⟩
    cases hv; exact hr
  | some k =>
    obtain ⟨c1, c2, c3, c4, c5⟩ := hc s k hcp
    have hk := hr.2.2 k (by unfold rel; omega)
    have hkv := hk.2.2.2 (by omega)
    have hand := cV_and hkv hx
    have e : ((oN (some k) : Nat) : Int) - 1 = (k : Int) := by show ((k + 1 : Nat) : Int) - 1 = _; omega
    rw [e, if_pos (by omega), if_pos (in_i (N := 20) (by omega)), lt_eq, jc_93_4, Int.toNat_natCast]
    have e98 : (nk_wi S 98 k (nk_land (S.1 98 k) x)).1 98 k = nk_land (S.1 98 k) x := by rw [wi_at, if_pos rfl]
    have hz := st_z (s := K) (hw k) (show (u k).1 = 2 by omega) hand
    rw [e98]
    dsimp only
    cases hx' : sEx (sAnd (u k).2.2.1 K) with
    | false =>
      rw [if_pos (hz.mpr hx'), if_neg (by decide)]
      exact ⟨_, rfl, wFr_98 _ _, fun v hv => by cases hv⟩
    | true =>
      rw [if_neg (fun q => by rw [hz.mp q] at hx'; cases hx'), if_pos rfl]
      refine ⟨_, rfl, wFr_98 _ _, fun v hv => ?_⟩
      cases hv
      refine cRw_up (k := k) (w := wSt (u k) (sAnd (u k).2.2.1 K)) (T := nk_wi S 98 k (nk_land (S.1 98 k) x)) hr (v := nk_land (S.1 98 k) x) (f := S.1 99 k) ⟨hk.1, fun q => ?_, fun q => ?_, fun _ => hand⟩ (by rw [wi_n (by decide)]) (by rw [wi_n (by decide)]) (fun i => by rw [wi_at]) (fun i => ?_)
      · have q : (u k).1 = 0 := q; omega
      · have q : (u k).1 = 1 := q; omega
      · rw [wi_n (by decide)]
        split
        · rename_i q; rw [q]
        · rfl
/-- the local that is copied is narrowed -/
theorem c_narrow (hT : thG F dn up) (hr : cRw lc h S u) (hw : ∀ k, wOk F (u k)) (hc : qCp lc u) {s : Nat} (hs : rel lc h s) (h1 : (u s).1 = 1) (hs20 : s < 20) {r : jR} (hrr : iR2 r) {g : Int} {f : Nat → Bool} (hg : cV g f) (hf : ∀ j, f j = true → j < 48) (hok : ∀ k q, kCom (u k).2.1 r = some q → (u k).1 = 1 → iR2 q ∧ q.1 ≤ q.2) : ∃ S', ja_X7_narrow 93 (s : Int) (pk r) g S = some (bi (qNr u s r f).isSome, S') ∧ wFr S S' ∧ ∀ v, qNr u s r f = some v → cRw lc h S' v := by
  have hsl := hr.2.2 s hs
  unfold ja_X7_narrow qNr
  rw [if_pos (in_i (N := 20) (by omega)), jc_93_5, Int.toNat_natCast, c_copy (hw s).1 hsl.1, bd_some]
  cases hcp : (u s).2.2.2.1 with
  | none =>
    rw [show oN none = 0 from rfl, if_neg (by decide)]
    refine ⟨S, rfl, wFr_rfl, fun v hv => ?_⟩
    cases hv; exact hr
  | some k =>
    obtain ⟨c1, c2, c3, c4, c5⟩ := hc s k hcp
    have hk := hr.2.2 k (by unfold rel; omega)
    have hkv := hk.2.2.1 (by omega)
    have hko := (wOk_1 (hw k) (by omega)).1
    have e : ((oN (some k) : Nat) : Int) - 1 = (k : Int) := by show ((k + 1 : Nat) : Int) - 1 = _; omega
    have hq := hok k
    rw [e, if_pos (by omega), if_pos (in_i (N := 20) (by omega)), jc_93_4, Int.toNat_natCast, hkv, c_common (rOk_iR hT hko) hrr, bd_some, lt_eq, lt_eq]
    have e99 : (nk_wi S 98 k (kPk (kCom (u k).2.1 r))).1 99 = S.1 99 := wi_n (by decide)
    rw [e99]
    have e98 : (nk_wi (nk_wi S 98 k (kPk (kCom (u k).2.1 r))) 99 k (nk_lor (S.1 99 k) g)).1 98 k = kPk (kCom (u k).2.1 r) := by rw [wi_n (by decide), wi_at, if_pos rfl]
    rw [e98, kPk_n (fun q hq' => hq q hq' (by omega)), bd_some]
    dsimp only
    cases hcm : kCom (u k).2.1 r with
    | none =>
      rw [if_neg (show ¬ bi (none : Option jR).isNone = 0 by decide)]
      exact ⟨_, rfl, wFr_trans (wFr_98 _ _) (wFr_99 _ _), fun v hv => by cases hv⟩
    | some q =>
      rw [if_pos (show bi (some q).isNone = 0 from rfl)]
      refine ⟨_, rfl, wFr_trans (wFr_98 _ _) (wFr_99 _ _), fun v hv => ?_⟩
      cases hv
      refine cRw_up (k := k) (w := wFc (wRg (u k) q) (sOr (u k).2.2.2.2 f)) (T := nk_wi (nk_wi S 98 k (kPk (some q))) 99 k (nk_lor (S.1 99 k) g)) hr (v := pk q) (f := nk_lor (S.1 99 k) g) ⟨c_addF hk.1 hg hf, fun q => ?_, fun _ => rfl, fun q => ?_⟩ (by rw [wi_n (by decide), wi_n (by decide)]) (by rw [wi_n (by decide), wi_n (by decide)]) (fun i => by rw [wi_n (by decide), wi_at]; rfl) (fun i => by rw [wi_at, wi_n (by decide)])
      · have q : (u k).1 = 0 := q; omega
      · have q : (u k).1 = 2 := q; omega
end CSW
