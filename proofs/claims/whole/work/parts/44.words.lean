/-! cutText: what the class knows of a text that was cut. -/
/-- what is always known of the words that every text knows -/
def jv_words (S : nk_S) : Prop := S.1 2 1 = 360 ∧ S.1 2 10 = 70 ∧ (∀ w, w < 70 → ∃ a b : Nat, S.1 5 w = (a : Int) ∧ S.1 6 w = (b : Int) ∧ a ≤ b ∧ b ≤ 360) ∧ (∀ w, w < 70 → wd S w = fx.getD w []) ∧ (∀ w, w < 70 → S.1 7 w = hp (fun v => hx (fx.getD v [])) (hx (fx.getD w [])) w) ∧ (∀ h : Nat, h < 1024 → S.1 12 h = hp (fun v => hx (fx.getD v [])) (h : Int) 70) ∧ ∀ w, w < 70 → S.1 9 w = shp (fx.getD w [])
theorem fx_inj : ∀ w, w < 70 → ∀ w', w' < 70 → fx.getD w [] = fx.getD w' [] → w = w' := by decide +kernel
theorem fx_len : ∀ w, w < 70 → 1 ≤ (fx.getD w []).length := by decide +kernel
theorem fx_shp : ∀ w, w < 70 → shp (fx.getD w []) < 3 := by decide +kernel
theorem pw_70 (S : nk_S) : ∀ c, c ≤ 70 → pw S c = 0 := by
  intro c
  induction c with
  | zero => intro _; rfl
  | succ c ih => intro h; rw [pw, ih (by omega), if_pos (by omega)]
/-- words are kept where these cells stay -/
theorem jv_words_congr {S S' : nk_S} (h3 : ∀ k, k < 360 → S'.1 3 k = S.1 3 k) (h2 : S'.1 2 1 = S.1 2 1) (h10 : S'.1 2 10 = S.1 2 10) (h5 : ∀ w, w < 70 → S'.1 5 w = S.1 5 w ∧ S'.1 6 w = S.1 6 w ∧ S'.1 7 w = S.1 7 w) (h12 : S'.1 12 = S.1 12) (h9 : ∀ w, w < 70 → S'.1 9 w = S.1 9 w) (h : jv_words S) : jv_words S' := by
  obtain ⟨a1, a2, a3, a4, a5, a6, a7⟩ := h
  refine ⟨h2.trans a1, h10.trans a2, fun w hw => ?_, fun w hw => ?_, fun w hw => ?_, fun x hx => by rw [h12]; exact a6 x hx, fun w hw => by rw [h9 w hw]; exact a7 w hw⟩
  · rw [(h5 w hw).1, (h5 w hw).2.1]; exact a3 w hw
  · rw [← a4 w hw]
    obtain ⟨a, b, e1, e2, e3, e4⟩ := a3 w hw
    unfold wd
    rw [(h5 w hw).1, (h5 w hw).2.1, e1, e2, Int.toNat_natCast, Int.toNat_natCast]
    exact sg_eq.mpr ⟨rfl, fun i hi => h3 _ (by omega)⟩
  · rw [(h5 w hw).2.2]; exact a5 w hw
/-- the class's view of a text that was cut -/
def CW (g : Nat → Int) (S : nk_S) (ts : List (Nat × Nat)) (c : Nat) : Prop := WI S c ∧ 70 ≤ c ∧ S.1 3 = g ∧ S.1 2 4 = (ts.length : Int) ∧ (∀ (i : Nat) (q : Nat × Nat), ts[i]? = some q → ∃ w : Nat, w < c ∧ S.1 4 i = (w : Int) ∧ wd S w = sg g (360 + q.1) (360 + q.2)) ∧ (∀ w, w < 70 → wd S w = fx.getD w []) ∧ ∀ v, v < c → S.1 9 v = shp (wd S v) ∧ mn S c v ∧ (shp (wd S v) < 3 → S.1 10 v = (if 60 ≤ v ∧ v < 68 then ((v - 60 : Nat) : Int) else -1) ∧ S.1 11 v = -1)
theorem ctx {S : nk_S} {n : Nat} (hW : jv_words S) (h2 : S.1 2 2 = ((360 + n : Nat) : Int)) (hn : n ≤ 16000) : ∃ S', ja_X10_cutText 2 S = some (bi (lx (fun k => S.1 3 (360 + k)) n 0 none false []).1, S') ∧ S'.1 2 4 = ((lx (fun k => S.1 3 (360 + k)) n 0 none false []).2.length : Int) ∧ ((lx (fun k => S.1 3 (360 + k)) n 0 none false []).1 = true → ∃ c, CW (S.1 3) S' (lx (fun k => S.1 3 (360 + k)) n 0 none false []).2 c) ∧ jv_words S' ∧ S'.1 2 2 = 360 ∧ S'.2 = S.2 ∧ (∀ a, a ≠ 2 → a ≠ 4 → a ≠ 5 → a ≠ 6 → a ≠ 7 → a ≠ 8 → a ≠ 9 → a ≠ 10 → a ≠ 11 → S'.1 a = S.1 a) := by
  obtain ⟨a1, a2, a3, a4, a5, a6, a7⟩ := id hW
  -- the beginning
  obtain ⟨S8, hS8⟩ : ∃ S8, S8 = nk_wi (nk_wi (nk_cp S 12 0 8 0 1024) 2 5 70) 2 4 0 := ⟨_, rfl⟩
  have b3 : S8.1 3 = S.1 3 := by rw [hS8, wi_n (by decide), wi_n (by decide), cp_n (by decide)]
  have b5 : S8.1 5 = S.1 5 := by rw [hS8, wi_n (by decide), wi_n (by decide), cp_n (by decide)]
  have b6 : S8.1 6 = S.1 6 := by rw [hS8, wi_n (by decide), wi_n (by decide), cp_n (by decide)]
  have b7 : S8.1 7 = S.1 7 := by rw [hS8, wi_n (by decide), wi_n (by decide), cp_n (by decide)]
  have b8 : ∀ h, h < 1024 → S8.1 8 h = S.1 12 h := fun h hh => by
    rw [hS8, wi_n (by decide), wi_n (by decide), cp_s]
    show (if 0 ≤ h ∧ h < 0 + 1024 then S.1 12 (0 + (h - 0)) else S.1 8 h) = _
    rw [if_pos (by omega), show 0 + (h - 0) = h by omega]
  have bw : ∀ w, wd S8 w = wd S w := fun w => wd_congr b3 (by rw [b5]) (by rw [b6])
  have bWI : WI S8 70 := by
    refine ⟨by rw [hS8]; simp +decide only [wi_v, if_false, if_true], by omega, fun w hw => ?_, fun w w' hw hw' e => ?_, fun w hw => ?_, fun h hh => ?_⟩
    · obtain ⟨a, b, e1, e2, e3, e4⟩ := a3 w hw
      exact ⟨a, b, by rw [b5]; exact e1, by rw [b6]; exact e2, e3, by omega⟩
    · rw [bw, bw, a4 w hw, a4 w' hw'] at e; exact fx_inj w hw w' hw' e
    · rw [b7, a5 w hw, bw, a4 w hw]
      exact hp_congr (fun i hi => by rw [bw, a4 i (by omega)])
    · rw [b8 h hh, a6 h hh]
      exact hp_congr (fun i hi => by rw [bw, a4 i hi])
  have bR : cc_R (S.1 3) S8 70 [] := by
    refine ⟨bWI, by omega, b3, by rw [hS8]; simp +decide only [wi_v, if_true, List.length_nil], fun i q hq => by simp at hq, ?_, by rw [pw_70 S8 70 (by omega)]; omega, fun w hw => by rw [bw]; exact a4 w hw, fun w hw => by rw [bw, a4 w hw]; exact fx_len w hw⟩
    rw [pw_70 S8 70 (by omega)]; exact Nat.zero_le _
  obtain ⟨S11, c, e1, e2, e3, e4⟩ := ct_L hn n nk_big 0 none false [] S8 70 (by omega) (by unfold nk_big; omega) bR (Nat.zero_le _) (by simp [ol])
  generalize hlx : lx (fun k => S.1 3 (360 + k)) n 0 none false [] = res at e1 e2 e4 ⊢
  have hS1 : S11.1 2 1 = 360 := by rw [e3.2.2.1 1 (by decide) (by decide), hS8]; simp +decide only [wi_v, cp_v, false_and, if_false]; exact a1
  have hS10 : S11.1 2 10 = 70 := by rw [e3.2.2.1 10 (by decide) (by decide), hS8]; simp +decide only [wi_v, cp_v, false_and, if_false]; exact a2
  have ecut : ja_X10_cut 2 (S8.1 2 1) (S8.1 2 2) S8 = some (bi res.1, S11) := by
    have k1 : S8.1 2 1 = 360 := by rw [hS8]; simp +decide only [wi_v, cp_v, false_and, if_false]; exact a1
    have k2 : S8.1 2 2 = ((360 + n : Nat) : Int) := by rw [hS8]; simp +decide only [wi_v, cp_v, false_and, if_false]; exact h2
    rw [k1, k2]
    exact e1
  obtain ⟨S13, hS13⟩ : ∃ S13, S13 = nk_wi S11 2 2 360 := ⟨_, rfl⟩
  have d4 : S13.1 2 4 = (res.2.length : Int) := by rw [hS13]; simp +decide only [wi_v, if_false]; exact e2.2.2.2.1
  have dw : ∀ w, wd S13 w = wd S11 w := fun w => by rw [hS13]; exact wd_congr (wi_n (by decide)) (by rw [wi_n (by decide)]) (by rw [wi_n (by decide)])
  have dn : ∀ a, a ≠ 2 → S13.1 a = S11.1 a := fun a ha => by rw [hS13]; exact wi_n ha
  have d10 : S13.1 2 10 = 70 := by rw [hS13]; simp +decide only [wi_v, if_false]; exact hS10
  have d1 : S13.1 2 1 = 360 := by rw [hS13]; simp +decide only [wi_v, if_false]; exact hS1
  have d2 : S13.1 2 2 = 360 := by rw [hS13]; simp +decide only [wi_v, if_true]
  have dS2 : S13.2 = S.2 := by rw [hS13]; show S11.2 = S.2; rw [e3.1, hS8]; rfl
  have dfr : ∀ a, a ≠ 2 → a ≠ 4 → a ≠ 5 → a ≠ 6 → a ≠ 7 → a ≠ 8 → S13.1 a = S.1 a := fun a x2 x4 x5 x6 x7 x8 => by
    rw [dn a x2, e3.2.1 a x2 x4 x5 x6 x7 x8, hS8, wi_n x2, wi_n x2, cp_n x8]
  have d567 : ∀ w, w < 70 → S13.1 5 w = S.1 5 w ∧ S13.1 6 w = S.1 6 w ∧ S13.1 7 w = S.1 7 w := fun w hw => by
    obtain ⟨q1, q2, q3⟩ := e3.2.2.2 w hw
    rw [dn 5 (by decide), dn 6 (by decide), dn 7 (by decide), q1, q2, q3, b5, b6, b7]
    exact ⟨rfl, rfl, rfl⟩
  have dJ : jv_words S13 := jv_words_congr (fun k _ => by rw [dfr 3 (by decide) (by decide) (by decide) (by decide) (by decide) (by decide)]) (d1.trans a1.symm) (d10.trans a2.symm) d567 (dfr 12 (by decide) (by decide) (by decide) (by decide) (by decide) (by decide)) (fun w _ => by rw [dfr 9 (by decide) (by decide) (by decide) (by decide) (by decide) (by decide)]) hW
  have ehead : ∀ K : Int → nk_S → Option (Int × nk_S), ja_X10_cutText 2 S = (if bi res.1 = 0 then (if bi res.1 = 0 ∨ bi res.1 = 1 then some (bi res.1, S13) else none) else nk_bd (ja_X10_forgetMeanings 2 S13) fun r16 S17 => nk_bd (ja_X10_shapeWords 2 (S17.1 2 10) S17) fun r19 S20 => if bi res.1 = 0 ∨ bi res.1 = 1 then some (bi res.1, S20) else none) := by
    intro _
    unfold ja_X10_cutText
    rw [if_pos (by decide), lt_eq, lt_eq, lt_eq, jc_2_11, jc_2_9]
    have k5 : (nk_cp S 12 0 8 0 1024).1 2 10 = 70 := by rw [cp_n (by decide)]; exact a2
    rw [k5, ← hS8, ecut, bd_some, lt_eq, hS1, ← hS13]
  rw [ehead (fun _ _ => none)]
  cases hr : res.1 with
  | false =>
    refine ⟨S13, ?_, d4, fun h => (by cases h), dJ, d2, dS2, fun a x2 x4 x5 x6 x7 x8 _ _ _ => dfr a x2 x4 x5 x6 x7 x8⟩
    rw [if_pos (show bi false = 0 from rfl), if_pos (show bi false = 0 ∨ bi false = 1 from Or.inl rfl)]
  | true =>
    rw [if_neg (show ¬ bi true = 0 by decide)]
    obtain ⟨S17, f1, f2, f3, f4, -⟩ := fm_L 70 nk_big 0 S13 (by omega) (by unfold nk_big; omega) d10
    have g3 : ∀ a, a ≠ 10 → a ≠ 11 → S17.1 a = S13.1 a := f3
    have gw : ∀ w, wd S17 w = wd S11 w := fun w => by rw [wd_congr (S := S13) (g3 3 (by decide) (by decide)) (by rw [g3 5 (by decide) (by decide)]) (by rw [g3 6 (by decide) (by decide)])]; exact dw w
    have gWI : WI S17 c := WI_congr (by rw [g3 2 (by decide) (by decide), hS13]; simp +decide only [wi_v, if_false]) (by rw [g3 3 (by decide) (by decide), dn 3 (by decide)]) (by rw [g3 5 (by decide) (by decide), dn 5 (by decide)]) (by rw [g3 6 (by decide) (by decide), dn 6 (by decide)]) (by rw [g3 7 (by decide) (by decide), dn 7 (by decide)]) (by rw [g3 8 (by decide) (by decide), dn 8 (by decide)]) e2.1
    obtain ⟨r1, r2, r3, r4, r5, r6, r7, r8, r9⟩ := e2
    have hq := qs_pw S17 c (fun w hw => by rw [gw]; exact r9 w hw)
    rw [pw_congr (S := S11) (fun w _ => gw w)] at hq
    obtain ⟨S20, c', s1, s2, s3, s4, s5⟩ := sw_L (c0 := c) (12288 - 70) nk_big 70 c S17 gWI (by omega) r2 (Nat.le_refl _) (by omega) (by unfold nk_big; omega) (fun v v1 v2 => by omega) (fun u u1 u2 => by omega) (fun v hv => by rw [gw]; exact r9 v hv) (by
      have : qs S17 (min 70 c) ≤ qs S17 c := qs_mono S17 (by omega)
      omega)
    have t4 : ∀ v, v < c → wd S20 v = wd S11 v := fun v hv => by rw [s5.2.2.2.1 v hv]; exact gw v
    have u3 : S20.1 3 = S.1 3 := by rw [s5.2.1 3 (by decide) (by decide) (by decide) (by decide) (by decide) (by decide) (by decide) (by decide), g3 3 (by decide) (by decide), dfr 3 (by decide) (by decide) (by decide) (by decide) (by decide) (by decide)]
    have u2 : ∀ i, i ≠ 5 → S20.1 2 i = S13.1 2 i := fun i hi => by rw [s5.2.2.1 i hi, g3 2 (by decide) (by decide)]
    refine ⟨S20, ?_, (u2 4 (by decide)).trans d4, fun _ => ⟨c', s2, by omega, u3, (u2 4 (by decide)).trans d4, fun i q hq => ?_, fun w hw => ?_, fun v hv => ?_⟩, ?_, (u2 2 (by decide)).trans d2, ?_, fun a x2 x4 x5 x6 x7 x8 x9 x10 x11 => ?_⟩
    · have k1 : ja_X10_forgetMeanings 2 S13 = some (0, S17) := f1
      have k2 : S17.1 2 10 = 70 := by rw [g3 2 (by decide) (by decide)]; exact d10
      rw [k1, bd_some, k2]
      have k3 : ja_X10_shapeWords 2 70 S17 = some (0, S20) := s1
      rw [k3, bd_some, if_pos (show bi true = 0 ∨ bi true = 1 from Or.inr rfl)]
    · obtain ⟨w, w1, w2, w3⟩ := r5 i q hq
      refine ⟨w, by omega, ?_, by rw [t4 w w1]; exact w3⟩
      rw [s5.2.1 4 (by decide) (by decide) (by decide) (by decide) (by decide) (by decide) (by decide) (by decide), g3 4 (by decide) (by decide), dn 4 (by decide)]
      exact w2
    · rw [t4 w (by omega)]; exact r8 w hw
    · by_cases hv7 : v < 70
      · have hwv : wd S20 v = fx.getD v [] := by rw [t4 v (by omega)]; exact r8 v hv7
        obtain ⟨z1, z2, z3⟩ := s5.2.2.2.2.2 v hv7
        have hsh := fx_shp v hv7
        refine ⟨?_, ⟨fun h => ?_, fun h => ?_, fun h => ?_⟩, fun _ => ?_⟩
        · rw [z1, g3 9 (by decide) (by decide), dfr 9 (by decide) (by decide) (by decide) (by decide) (by decide) (by decide), hwv]; exact a7 v hv7
        · rw [hwv] at h; omega
        · rw [hwv] at h; omega
        · rw [hwv] at h; omega
        · rw [z2, z3]; exact f4 v (by omega) hv7
      · obtain ⟨y1, y2, y3⟩ := s4 v (by omega) hv
        refine ⟨y1, y2, fun h => ?_⟩
        rw [if_neg (by omega)]
        exact y3 h
    · refine jv_words_congr (S := S13) (fun k _ => by rw [u3, dfr 3 (by decide) (by decide) (by decide) (by decide) (by decide) (by decide)]) (u2 1 (by decide)) (u2 10 (by decide)) (fun w hw => ?_) ?_ (fun w hw => ?_) dJ
      · obtain ⟨y1, y2, y3⟩ := s5.2.2.2.2.1 w (by omega)
        rw [y1, y2, y3, g3 5 (by decide) (by decide), g3 6 (by decide) (by decide), g3 7 (by decide) (by decide)]
        exact ⟨rfl, rfl, rfl⟩
      · rw [s5.2.1 12 (by decide) (by decide) (by decide) (by decide) (by decide) (by decide) (by decide) (by decide), g3 12 (by decide) (by decide)]
      · obtain ⟨y1, -, -⟩ := s5.2.2.2.2.2 w hw
        rw [y1, g3 9 (by decide) (by decide)]
    · rw [s5.1, f2, dS2]
    · rw [s5.2.1 a x2 x5 x6 x7 x8 x9 x10 x11, g3 a x10 x11, dfr a x2 x4 x5 x6 x7 x8]
