/-! The class looks through references, and calculates. -/
section CDR
variable {F : Int → Prop} {dn up : Int → Int} {lc h : Nat} {S : nk_S} {u : jQ} {us : List Int} {z : jL} {t : Nat → Int}
theorem c_keep3 (hr : cRw lc h S u) (hw : ∀ k, wOk F (u k)) (hc : qCp lc u) {s : Nat} (hs : rel lc h s) (h2 : (u s).1 = 2) (hs20 : s < 20) {x : Int} {K : Nat → Bool} (hx : cV x K) : ∃ S', ja_X7_keepSites 93 (s : Int) x S = some (bi (qKp u s K).isSome, S') ∧ wFr S S' ∧ S'.1 93 = S.1 93 ∧ ∀ v, qKp u s K = some v → cRw lc h S' v := by
  have hsl := hr.2.2 s hs
  unfold ja_X7_keepSites qKp
  rw [if_pos (in_i (N := 20) (by omega)), jc_93_5, Int.toNat_natCast, c_copy (hw s).1 hsl.1, bd_some]
  cases hcp : (u s).2.2.2.1 with
  | none =>
    rw [show oN none = 0 from rfl, if_neg (by decide)]
    refine ⟨S, rfl, wFr_rfl, rfl, fun v hv => ?_⟩
    cases hv; exact hr
  | some k =>
    obtain ⟨c1, c2, c3, c4, c5⟩ := hc s k hcp
    have hk := hr.2.2 k (by unfold rel; omega)
    have hkv := hk.2.2.2 (by omega)
    have hand := cV_and hkv hx
    have e : ((oN (some k) : Nat) : Int) - 1 = (k : Int) := by show ((k + 1 : Nat) : Int) - 1 = _; omega
    rw [e, if_pos (by omega), if_pos (in_i (N := 20) (by omega)), lt_eq, jc_93_4, Int.toNat_natCast]
    have e98 : (nk_wi S 98 k (nk_land (S.1 98 k) x)).1 98 k = nk_land (S.1 98 k) x := by rw [wi_at, if_pos rfl]
    have hz := st_z (s := K) (hw k) (show (u k).1 = 2 by omega) hand
    rw [e98]
    dsimp only
    cases hx' : sEx (sAnd (u k).2.2.1 K) with
    | false =>
      rw [if_pos (hz.mpr hx'), if_neg (by decide)]
      exact ⟨_, rfl, wFr_98 _ _, wi_n (by decide), fun v hv => by cases hv⟩
    | true =>
      rw [if_neg (fun q => by rw [hz.mp q] at hx'; cases hx'), if_pos rfl]
      refine ⟨_, rfl, wFr_98 _ _, wi_n (by decide), fun v hv => ?_⟩
      cases hv
      refine cRw_up (k := k) (w := wSt (u k) (sAnd (u k).2.2.1 K)) (T := nk_wi S 98 k (nk_land (S.1 98 k) x)) hr (v := nk_land (S.1 98 k) x) (f := S.1 99 k) ⟨hk.1, fun q => ?_, fun q => ?_, fun _ => hand⟩ (by rw [wi_n (by decide)]) (by rw [wi_n (by decide)]) (fun i => by rw [wi_at]) (fun i => ?_)
      · have q : (u k).1 = 0 := q; omega
      · have q : (u k).1 = 1 := q; omega
      · rw [wi_n (by decide)]
        split
        · rename_i q; rw [q]
        · rfl
theorem cV_bit {v : Int} {s : Nat → Bool} (hv : cV v s) : nk_land v 4611686018427387904 = 0 ↔ s 62 = false := by
  have ha : cV (nk_land v 4611686018427387904) (sAnd s (onS 62)) := cV_and hv ⟨by unfold lR; decide, lk_62⟩
  rw [cV_z ha]
  constructor
  · intro q
    have := q 62 (by decide)
    have : (s 62 && decide (62 = 62)) = false := this
    rw [decide_eq_true rfl, Bool.and_true] at this
    exact this
  · intro q j _
    show (s j && decide (j = 62)) = false
    by_cases c : j = 62
    · rw [c, q]; rfl
    · rw [decide_eq_false c, Bool.and_false]
/-- the errors with one more, if a reference can be none -/
def nlR (b : Bool) (e : Nat) (r : Nat → Bool) : Nat → Bool := if b = true then sOr r (onS e) else r
theorem c_deref {r s : Nat → Bool} (k : cRs S r s) (hr : cRw lc h S u) (hok : vOk F us z lc t u) {a : Nat} (ha : rel lc h a ∧ a < 20) (k2 : (u a).1 = 2) : ∃ S', ja_X4_dereference 92 (a : Int) S = some (bi (pDr u a).isSome, S') ∧ eFr S S' ∧ S'.1 93 = S.1 93 ∧ cRs S' (nlR ((u a).2.2.1 62) 0 r) (nlR ((u a).2.2.1 62) 48 s) ∧ ∀ v, pDr u a = some v → cRw lc h S' v := by
  have st := hr.2.2 a ha.1
  have sv := st.2.2.2 k2
  obtain ⟨S1, s1, s2, s2', s3, s4, s5⟩ : ∃ S1, ja_X4_dereference 92 (a : Int) S = ja_X4_dereference_b25 92 (a : Int) (S.1 98 a) S1 ∧ eFr S S1 ∧ S1.1 93 = S.1 93 ∧ cRs S1 (nlR ((u a).2.2.1 62) 0 r) (nlR ((u a).2.2.1 62) 48 s) ∧ cRw lc h S1 u ∧ S1.1 98 = S.1 98 := by
    unfold ja_X4_dereference
    rw [if_pos (in_i (N := 20) (by omega)), lt_eq, jc_92_2, jc_93_4, Int.toNat_natCast]
    by_cases c : (u a).2.2.1 62 = true
    · obtain ⟨S1, q1, q2, q3, q4⟩ := c_raise k hr (e := 0) (by decide)
      have q1' : ja_X4_raise 92 0 S = some (0, S1) := q1
      have e93 : S1.1 93 = S.1 93 ∧ S1.1 98 = S.1 98 := by
        unfold ja_X4_raise at q1'
        rw [lt_eq, lt_eq] at q1'
        cases q1'
        exact ⟨by rw [wi_n (by decide), wi_n (by decide)], by rw [wi_n (by decide), wi_n (by decide)]⟩
      refine ⟨S1, ?_, q2, e93.1, ?_, q4, e93.2⟩
      · rw [if_neg (fun q => by rw [(cV_bit sv).mp q] at c; cases c), q1', bd_some]
      · unfold nlR
        rw [if_pos c, if_pos c]; exact q3
    · have cf : (u a).2.2.1 62 = false := by cases q : (u a).2.2.1 62 <;> simp_all
      refine ⟨S, ?_, eFr_rfl, rfl, ?_, hr, rfl⟩
      · rw [if_pos ((cV_bit sv).mpr cf)]
      · unfold nlR
        rw [if_neg c, if_neg c]; exact k
  rw [s1]
  unfold ja_X4_dereference_b25 pDr
  have hm : cV 18014398509481983 sAl := ⟨by unfold lR; decide, lk_al⟩
  have hz' := st_z (s := sAl) (hok.1 _) k2 (cV_and sv hm)
  by_cases c : sEx (sAnd (u a).2.2.1 sAl) = true
  · rw [if_neg (fun q => by rw [hz'.mp q] at c; cases c), if_pos c, jc_92_2]
    obtain ⟨S2, q1, q2, q3, q4⟩ := c_keep3 s4 hok.1 hok.2.1 ha.1 k2 ha.2 hm
    rw [q1, bd_some]
    refine ⟨S2, ?_, eFr_trans s2 (eFr_w q2), by rw [q3, s2'], cRs_w q2 s3, q4⟩
    cases qKp u a sAl <;> rfl
  · have cf : sEx (sAnd (u a).2.2.1 sAl) = false := by cases q : sEx (sAnd (u a).2.2.1 sAl) <;> simp_all
    rw [if_pos (hz'.mpr cf), if_neg c]
    exact ⟨S1, rfl, s2, s2', s3, fun v hv => by cases hv⟩
end CDR
section CCL
variable {F : Int → Prop} {S : nk_S} {Q : Nat} {p : jP} {H lc : Nat → Nat} {us : List Int} {z : jL} {t : Nat → Int} {u : jQ} {i : Nat} {x : jC} {G : jZ} {σ : jG} {l h : Nat}
/-- a number is left -/
theorem c_b129 (hr : cRw l h S u) (h8 : h < 8) {o : Option jR} (ho : ∀ r, o = some r → iR2 r ∧ r.1 ≤ r.2) : ∃ S', ja_X4_calculates_b129 92 (kPk o) S = some (bi o.isSome, S') ∧ wFr S S' ∧ ∀ r, o = some r → cRw l (h + 1) S' (qUp u (12 + h) (wR r)) := by
  unfold ja_X4_calculates_b129
  cases o with
  | none =>
    obtain ⟨S', s1, s2⟩ : ∃ S', ja_X7_push 93 (kPk none) 4503599627370496 S = some (0, S') ∧ wFr S S' := by
      obtain ⟨r1, r2, r3⟩ := hr
      refine ⟨nk_wi (nk_wi (nk_wi S 98 (12 + h) (kPk none)) 99 (12 + h) 4503599627370496) 93 7 ((h + 1 : Nat) : Int), ?_, wFr_trans (wFr_98 _ _) (wFr_trans (wFr_99 _ _) (wFr_7 _))⟩
      unfold ja_X7_push
      have e1 : (nk_wi S 98 (12 + h) (kPk none)).1 93 7 = (h : Int) := by rw [wi_n (by decide)]; exact r2
      have e2 : (nk_wi (nk_wi S 98 (12 + h) (kPk none)) 99 (12 + h) 4503599627370496).1 93 7 = (h : Int) := by rw [wi_n (by decide), wi_n (by decide)]; exact r2
      rw [r2, if_neg (by omega), wi12 (by omega), if_pos (in_i (N := 20) (by omega)), lt_eq, jc_93_4, Int.toNat_natCast, e1, wi12 (by omega), if_pos (in_i (N := 20) (by omega)), lt_eq, jc_93_5, Int.toNat_natCast, lt_eq, e2, w_nat1 (by omega)]
    refine ⟨S', ?_, s2, fun r q => by cases q⟩
    rw [jc_92_2, s1, bd_some, kPk_n ho, bd_some]; rfl
  | some r =>
    obtain ⟨S', s1, s2, s3⟩ := c_push hr h8 (cSt_R (r := r))
    refine ⟨S', ?_, s2, fun r' q => by cases q; exact s3⟩
    have s1' : ja_X7_push 93 (kPk (some r)) 4503599627370496 S = some (0, S') := s1
    rw [jc_92_2, s1', bd_some, kPk_n ho, bd_some]; rfl
/-- the class calculates -/
theorem c_calcs (hQ : Q = 13 ∨ Q = 49) (hT : thG F (zDn G) (zUp G)) (hF : F = fun y => th7 y ∨ ∃ x ∈ p.2.2.2.2.1.2.2.2, nbr x y) (hv : cPv S Q p H lc) (hz : oJL p.2.2.2.2.1) {r s : Nat → Bool} (k : cRs S r s) (hr : cRw (lc i) (H i) S u) (hok : vOk F us z (lc i) t u) (ho : 8 ≤ x.1 ∧ x.1 ≤ 18) (k1 : (u (12 + H i - 1)).1 = 1) (k2 : x.1 ≠ 18 → (u (12 + H i - 2)).1 = 1 ∧ 2 ≤ H i) (h1 : 1 ≤ H i) : ∃ S', ja_X4_calculates 92 (x.1 : Int) S = some (bi (pGo G σ x (H i) u).isSome, S') ∧ eFr S S' ∧ cRs S' (nlR (pRz G σ x (H i) u 3) 3 r) (nlR (pRz G σ x (H i) u 3) 51 s) ∧ ∀ v, pGo G σ x (H i) u = some v → cRw (lc i) (if x.1 = 18 then H i else H i - 1) S' v := by
  have hH8 := (hv.2.2.2.2 i).2
  obtain ⟨n, n1, n2⟩ := cPv_t hv hz
  rw [← hF] at n2
  have hR : Q + 23 = 36 ∨ Q + 23 = 72 := by omega
  have top := c_top0 hr hH8
  have st1 := hr.2.2 (12 + H i - 1) (by unfold rel; omega)
  have o1 := (wOk_1 (hok.1 (12 + H i - 1)) k1).1
  have i1 := rOk_iR hT o1
  unfold ja_X4_calculates
  rw [jc_92_2, top, bd_some]
  by_cases c18 : x.1 = 18
  · have epr : pRz G σ x (H i) u 3 = false := by
      unfold pRz
      rw [if_neg (by decide), if_neg (by decide), if_neg (by decide), if_pos rfl, decide_eq_false (by omega), Bool.false_and]
    have epg : pGo G σ x (H i) u = some (qUp u (12 + H i - 1) (wR (kNeg (zDn G) (zUp G) (u (12 + H i - 1)).2.1))) := by
      unfold pGo
      rw [if_neg (by omega), if_neg (by omega), if_neg (by omega), if_neg (by omega), if_neg (by omega), if_neg (by omega), if_neg (by omega), if_neg (by omega), if_neg (by omega), if_pos c18]
    obtain ⟨S1, s1, s2, s3⟩ := c_drop hr (n := 1) h1 hH8
    have s1' : ja_X7_drop 93 1 S = some (0, S1) := s1
    have okn : rOk F (kNeg (zDn G) (zUp G) (u (12 + H i - 1)).2.1) := rAr_ok hT (by have := o1.2.2; omega)
    obtain ⟨S2, q1, q2, q3⟩ := c_b129 s3 (by omega) (o := some (kNeg (zDn G) (zUp G) (u (12 + H i - 1)).2.1)) (c_kOk hT (fun r' hr' => by cases hr'; exact okn))
    have q1' : ja_X4_calculates_b129 92 (pk (kNeg (zDn G) (zUp G) (u (12 + H i - 1)).2.1)) S1 = some (1, S2) := q1
    rw [if_pos (by omega), if_pos (in_i (N := 20) (by omega)), jc_93_4, Int.toNat_natCast, st1.2.2.1 k1, hv.2.1, c_negative hR hT n2 n1 i1 o1.2.2, bd_some, s1', bd_some, q1', epr, epg]
    refine ⟨S2, rfl, eFr_trans (eFr_w s2) (eFr_w q2), ?_, fun v hv' => ?_⟩
    · unfold nlR
      rw [if_neg (by decide), if_neg (by decide)]
      exact cRs_w q2 (cRs_w s2 k)
    · cases hv'
      rw [if_pos c18]
      have := q3 _ rfl
      rw [show H i - 1 + 1 = H i by omega, show 12 + (H i - 1) = 12 + H i - 1 by omega] at this
      exact this
  · obtain ⟨k2', h2⟩ := k2 c18
    have st2 := hr.2.2 (12 + H i - 2) (by unfold rel; omega)
    have o2 := (wOk_1 (hok.1 (12 + H i - 2)) k2').1
    have i2 := rOk_iR hT o2
    have e2 : nk_w (((12 + H i - 1 : Nat) : Int) - 1) = ((12 + H i - 2 : Nat) : Int) := by
      rw [show ((12 + H i - 1 : Nat) : Int) - 1 = ((12 + H i - 1 : Nat) : Int) - ((1 : Nat) : Int) by omega, wisub (by omega) (by omega)]
      congr 1
    rw [if_neg (by omega), if_pos (in_i (N := 20) (by omega)), lt_eq, jc_93_4, Int.toNat_natCast, st1.2.2.1 k1]
    have hb99 : ∀ T, eFr S T → cRw (lc i) (H i) T u → ∃ S', ja_X4_calculates_b99 92 (x.1 : Int) ((12 + H i - 1 : Nat) : Int) (pk (u (12 + H i - 1)).2.1) T = some (bi (pGo G σ x (H i) u).isSome, S') ∧ wFr T S' ∧ ∀ v, pGo G σ x (H i) u = some v → cRw (lc i) (H i - 1) S' v := by
      intro T hT' hrT
      have vT := cPv_e hQ hT' hv
      obtain ⟨n', n1', n2'⟩ := cPv_t vT hz
      rw [← hF] at n2'
      have stT := hrT.2.2 (12 + H i - 2) (by unfold rel; omega)
      obtain ⟨S1, s1, s2, s3⟩ := c_drop hrT (n := 2) h2 hH8
      have s1' : ja_X7_drop 93 2 T = some (0, S1) := s1
      obtain ⟨o, hoo⟩ : ∃ o, o = kCalc (zDn G) (zUp G) x.1 (u (12 + H i - 2)).2.1 (u (12 + H i - 1)).2.1 := ⟨_, rfl⟩
      obtain ⟨S2, q1, q2, q3⟩ := c_b129 s3 (by omega) (o := o) (c_kOk hT (fun r' hr' => kCalc_ok hT o2.2.2 o1.2.2 (hoo ▸ hr')))
      have epg : pGo G σ x (H i) u = oB o fun r => some (qUp u (12 + H i - 2) (wR r)) := by
        unfold pGo
        rw [if_neg (by omega), if_neg (by omega), if_neg (by omega), if_neg (by omega), if_neg (by omega), if_neg (by omega), if_neg (by omega), if_neg (by omega), if_pos (by omega), hoo]
      have es : (pGo G σ x (H i) u).isSome = o.isSome := by rw [epg]; cases o <;> rfl
      refine ⟨S2, ?_, wFr_trans s2 q2, fun v hv' => ?_⟩
      · unfold ja_X4_calculates_b99
        rw [e2]
        clear e2
        rw [if_pos (in_i (N := 20) (by omega)), jc_92_2, jc_93_4, Int.toNat_natCast, stT.2.2.1 k2', vT.2.1, c_calc hR hT n2' n1' i2 i1 o2.2.2 o1.2.2 (by omega), bd_some, s1', bd_some, ← hoo, q1, es]
      · rw [epg] at hv'
        obtain ⟨r', f1, f2⟩ := oB_some hv'
        cases f2
        have := q3 r' f1
        rw [show H i - 2 + 1 = H i - 1 by omega, show 12 + (H i - 2) = 12 + H i - 2 by omega] at this
        exact this
    rw [if_neg c18]
    have hno : pRz G σ x (H i) u 3 = false → ∀ T, T = S → ∃ S', ja_X4_calculates_b99 92 (x.1 : Int) ((12 + H i - 1 : Nat) : Int) (pk (u (12 + H i - 1)).2.1) T = some (bi (pGo G σ x (H i) u).isSome, S') ∧ eFr S S' ∧ cRs S' (nlR (pRz G σ x (H i) u 3) 3 r) (nlR (pRz G σ x (H i) u 3) 51 s) ∧ ∀ v, pGo G σ x (H i) u = some v → cRw (lc i) (H i - 1) S' v := by
      intro e T hT'
      subst hT'
      obtain ⟨S', s1, s2, s3⟩ := hb99 T eFr_rfl hr
      refine ⟨S', s1, eFr_w s2, ?_, s3⟩
      rw [e]
      unfold nlR
      rw [if_neg (by decide), if_neg (by decide)]
      exact cRs_w s2 k
    have epr : pRz G σ x (H i) u 3 = (decide (x.1 = 11 ∨ x.1 = 12) && (decide ((u (12 + H i - 1)).2.1.1 ≤ 0) && decide (0 ≤ (u (12 + H i - 1)).2.1.2))) := by
      unfold pRz
      rw [if_neg (by decide), if_neg (by decide), if_neg (by decide), if_pos rfl]
    by_cases c11 : x.1 = 11 ∨ x.1 = 12
    · have e71 : (if (x.1 : Int) = 11 then ja_X4_calculates_b66 92 (x.1 : Int) ((12 + H i - 1 : Nat) : Int) (pk (u (12 + H i - 1)).2.1) S else if (x.1 : Int) = 12 then ja_X4_calculates_b66 92 (x.1 : Int) ((12 + H i - 1 : Nat) : Int) (pk (u (12 + H i - 1)).2.1) S else ja_X4_calculates_b71 92 (x.1 : Int) ((12 + H i - 1 : Nat) : Int) (pk (u (12 + H i - 1)).2.1) 0 S) = ja_X4_calculates_b71 92 (x.1 : Int) ((12 + H i - 1 : Nat) : Int) (pk (u (12 + H i - 1)).2.1) 1 S := by
        by_cases d : x.1 = 11
        · rw [if_pos (by omega)]; rfl
        · rw [if_neg (by omega), if_pos (by omega)]; rfl
      rw [e71]
      unfold ja_X4_calculates_b71
      rw [if_neg (by decide), lo_e i1, bd_some, hi_e i1, bd_some]
      by_cases d1 : 0 < (u (12 + H i - 1)).2.1.1
      · rw [if_pos d1]
        exact hno (by rw [epr, decide_eq_false (show ¬ (u (12 + H i - 1)).2.1.1 ≤ 0 by omega), Bool.false_and, Bool.and_false]) S rfl
      · rw [if_neg d1]
        by_cases d2 : (u (12 + H i - 1)).2.1.2 < 0
        · rw [if_pos d2]
          exact hno (by rw [epr, decide_eq_false (show ¬ 0 ≤ (u (12 + H i - 1)).2.1.2 by omega), Bool.and_false, Bool.and_false]) S rfl
        · rw [if_neg d2]
          obtain ⟨T, t1, t2, t3, t4⟩ := c_raise k hr (e := 3) (by decide)
          have t1' : ja_X4_raise 92 3 S = some (0, T) := t1
          rw [t1', bd_some]
          obtain ⟨S', s1, s2, s3⟩ := hb99 T t2 t4
          refine ⟨S', s1, eFr_trans t2 (eFr_w s2), ?_, s3⟩
          have e : pRz G σ x (H i) u 3 = true := by rw [epr, decide_eq_true c11, decide_eq_true (show (u (12 + H i - 1)).2.1.1 ≤ 0 by omega), decide_eq_true (show 0 ≤ (u (12 + H i - 1)).2.1.2 by omega)]; rfl
          rw [e]
          unfold nlR
          rw [if_pos rfl, if_pos rfl]
          exact cRs_w s2 t3
    · rw [if_neg (by omega), if_neg (by omega)]
      unfold ja_X4_calculates_b71
      rw [if_pos rfl]
      exact hno (by rw [epr, decide_eq_false c11, Bool.false_and]) S rfl
end CCL
