/-! The class compares. -/
/-- the class's program, but for the places of fields -/
def cPh (S : nk_S) (Q : Nat) (p : jP) : Prop := cU S Q p.2.1 ∧ S.1 (Q + 1) 4 = (p.2.2.1.length : Int) ∧ (∀ (f : Nat) (x : List Int × Nat × Int), p.2.2.1[f]? = some x → S.1 (Q + 6) f = (x.2.1 : Int) ∧ S.1 (Q + 7) f = x.2.2) ∧ S.1 (Q + 9) 0 = (p.2.2.2.1.length : Int) ∧ S.1 (Q + 9) 1 = mnL p.1 p.2.2.2.1 0 ∧ (∀ (b : Nat) (x : jB), p.2.2.2.1[b]? = some x → cB0 S Q b x) ∧ cEl S Q p.2.2.2.2.2 ∧ (∀ (c i : Nat) (x : jB), c < p.2.1.length → p.2.2.2.1[i]? = some x → S.1 (Q + 22) (c * 48 + i) = rnS p.2.1 p.2.2.2.1 c x) ∧ cJL S Q p.2.2.2.2.1 ∧ True
theorem cPh_c {S S' : nk_S} {Q : Nat} {p : jP} (k : ∀ a, Q ≤ a → a < Q + 36 → a ≠ Q + 30 → a ≠ Q + 4 → a ≠ Q + 8 → S'.1 a = S.1 a) (h : cPh S Q p) : cPh S' Q p := by
  unfold cPh cU cB0 cEl cJL cCd cSl cKl cTh tC at h ⊢
  rw [k Q (by omega) (by omega) (by omega) (by omega) (by omega), k (Q + 1) (by omega) (by omega) (by omega) (by omega) (by omega), k (Q + 2) (by omega) (by omega) (by omega) (by omega) (by omega), k (Q + 3) (by omega) (by omega) (by omega) (by omega) (by omega), k (Q + 6) (by omega) (by omega) (by omega) (by omega) (by omega), k (Q + 7) (by omega) (by omega) (by omega) (by omega) (by omega), k (Q + 9) (by omega) (by omega) (by omega) (by omega) (by omega), k (Q + 10) (by omega) (by omega) (by omega) (by omega) (by omega), k (Q + 12) (by omega) (by omega) (by omega) (by omega) (by omega), k (Q + 13) (by omega) (by omega) (by omega) (by omega) (by omega), k (Q + 14) (by omega) (by omega) (by omega) (by omega) (by omega), k (Q + 15) (by omega) (by omega) (by omega) (by omega) (by omega), k (Q + 16) (by omega) (by omega) (by omega) (by omega) (by omega), k (Q + 18) (by omega) (by omega) (by omega) (by omega) (by omega), k (Q + 19) (by omega) (by omega) (by omega) (by omega) (by omega), k (Q + 20) (by omega) (by omega) (by omega) (by omega) (by omega), k (Q + 21) (by omega) (by omega) (by omega) (by omega) (by omega), k (Q + 22) (by omega) (by omega) (by omega) (by omega) (by omega), k (Q + 23) (by omega) (by omega) (by omega) (by omega) (by omega), k (Q + 23 + 1) (by omega) (by omega) (by omega) (by omega) (by omega), k (Q + 25) (by omega) (by omega) (by omega) (by omega) (by omega), k (Q + 26) (by omega) (by omega) (by omega) (by omega) (by omega), k (Q + 27) (by omega) (by omega) (by omega) (by omega) (by omega), k (Q + 28) (by omega) (by omega) (by omega) (by omega) (by omega), k (Q + 29) (by omega) (by omega) (by omega) (by omega) (by omega), k (Q + 31) (by omega) (by omega) (by omega) (by omega) (by omega), k (Q + 32) (by omega) (by omega) (by omega) (by omega) (by omega), k (Q + 33) (by omega) (by omega) (by omega) (by omega) (by omega), k (Q + 34) (by omega) (by omega) (by omega) (by omega) (by omega), k (Q + 35) (by omega) (by omega) (by omega) (by omega) (by omega)]
  exact h
theorem cPg_h {S : nk_S} {Q : Nat} {p : jP} (h : cPg S Q p) : cPh S Q p := by
  obtain ⟨h1, h2, h3, h4, h5, h6, h7, h8, h9, -⟩ := h
  exact ⟨h1, h2, h3, h4, h5, h6, h7, h8, h9, trivial⟩
/-- what the class sees of the program while it proves -/
def cPv (S : nk_S) (Q : Nat) (p : jP) (H lc : Nat → Nat) : Prop := S.2 92 0 = Q ∧ S.2 92 1 = Q + 23 ∧ cPh S Q p ∧ (∀ (i : Nat) (x : jC), p.2.2.2.2.1.1[i]? = some x → S.1 (Q + 30) i = (H i : Int) ∧ S.1 (Q + 16) x.2.2.2.1 = (lc i : Int)) ∧ ∀ i, lc i ≤ 12 ∧ H i ≤ 8
theorem cPv_c {S S' : nk_S} {Q : Nat} (hQ : Q = 13 ∨ Q = 49) {p : jP} {H lc : Nat → Nat} (h2 : S'.2 = S.2) (h : ∀ a, a < 86 → S'.1 a = S.1 a) (hv : cPv S Q p H lc) : cPv S' Q p H lc := by
  obtain ⟨v1, v2, v3, v4, v5⟩ := hv
  refine ⟨by rw [h2]; exact v1, by rw [h2]; exact v2, cPh_c (fun a _ x _ _ _ => h a (by omega)) v3, fun i x hx => ?_, v5⟩
  rw [h (Q + 30) (by omega), h (Q + 16) (by omega)]
  exact v4 i x hx
theorem cPv_w {S S' : nk_S} {Q : Nat} (hQ : Q = 13 ∨ Q = 49) {p : jP} {H lc : Nat → Nat} (hf : wFr S S') (hv : cPv S Q p H lc) : cPv S' Q p H lc := cPv_c hQ hf.1 (fun a ha => hf.2.1 a (by omega) (by omega) (by omega)) hv
/-- thresholds -/
theorem cPv_t {S : nk_S} {Q : Nat} {p : jP} {H lc : Nat → Nat} (hv : cPv S Q p H lc) (hz : oJL p.2.2.2.2.1) : ∃ n, n ≤ 3079 ∧ tC S (Q + 23) n (fun y => th7 y ∨ ∃ x ∈ p.2.2.2.2.1.2.2.2, nbr x y) := by
  have hJ : cJL S Q p.2.2.2.2.1 := hv.2.2.1.2.2.2.2.2.2.2.2.1
  obtain ⟨n, n1, n2⟩ := hJ.2.2.2
  have h1 := hz.1
  have h2 := hz.2.2.2
  exact ⟨n, by omega, n2⟩
section CWY
variable {F : Int → Prop} {dn up : Int → Int} {lc h : Nat} {S : nk_S} {u : jQ} {R n : Nat}
theorem c_bringS {i l g : Nat} (hi : i < 1024) (hl : l ≤ 12) (hg : g ≤ 8) (hrow : ∀ k, rel l g k → cSt (S.1 94 (i * 20 + k)) (S.1 95 (i * 20 + k)) (u k)) : ∃ S', ja_X7_bring 93 (i : Int) (l : Int) (g : Int) S = some (0, S') ∧ wFr S S' ∧ cRw l g S' u := by
  obtain ⟨A, hA⟩ : ∃ A, A = nk_wi (nk_wi S 93 6 (l : Int)) 93 7 (g : Int) := ⟨_, rfl⟩
  have a6 : A.1 93 6 = (l : Int) := by rw [hA, wi_at, if_neg (by decide), wi_at, if_pos rfl]
  have a7 : A.1 93 7 = (g : Int) := by rw [hA, wi_at, if_pos rfl]
  have an : ∀ a, a ≠ 93 → A.1 a = S.1 a := fun a ha => by rw [hA, wi_n ha, wi_n ha]
  obtain ⟨B, hB⟩ : ∃ B, B = nk_cp (nk_cp (nk_cp (nk_cp A 94 (i * 20) 98 0 l) 95 (i * 20) 99 0 l) 94 (i * 20 + 12) 98 12 g) 95 (i * 20 + 12) 99 12 g := ⟨_, rfl⟩
  have b98 : ∀ k, B.1 98 k = if 12 ≤ k ∧ k < 12 + g then S.1 94 (i * 20 + k) else if k < l then S.1 94 (i * 20 + k) else S.1 98 k := by
    intro k
    rw [hB, cp_n (by decide), cp_v]
    by_cases c : 12 ≤ k ∧ k < 12 + g
    · rw [if_pos ⟨rfl, c⟩, if_pos c, cp_n (by decide), cp_n (by decide), an 94 (by decide), show i * 20 + 12 + (k - 12) = i * 20 + k by omega]
    · rw [if_neg (fun q => c q.2), if_neg c, cp_n (by decide), cp_v]
      by_cases d : k < l
      · rw [if_pos ⟨rfl, by omega, by omega⟩, if_pos d, an 94 (by decide), Nat.sub_zero]
      · rw [if_neg (fun q => d (by omega)), if_neg d, an 98 (by decide)]
  have b99 : ∀ k, B.1 99 k = if 12 ≤ k ∧ k < 12 + g then S.1 95 (i * 20 + k) else if k < l then S.1 95 (i * 20 + k) else S.1 99 k := by
    intro k
    rw [hB, cp_v]
    by_cases c : 12 ≤ k ∧ k < 12 + g
    · rw [if_pos ⟨rfl, c⟩, if_pos c, cp_n (by decide), cp_n (by decide), cp_n (by decide), an 95 (by decide), show i * 20 + 12 + (k - 12) = i * 20 + k by omega]
    · rw [if_neg (fun q => c q.2), if_neg c, cp_n (by decide), cp_v]
      by_cases d : k < l
      · rw [if_pos ⟨rfl, by omega, by omega⟩, if_pos d, cp_n (by decide), an 95 (by decide), Nat.sub_zero]
      · rw [if_neg (fun q => d (by omega)), if_neg d, cp_n (by decide), an 99 (by decide)]
  have bn : ∀ a, a ≠ 98 → a ≠ 99 → B.1 a = A.1 a := fun a x y => by rw [hB, cp_n y, cp_n x, cp_n y, cp_n x]
  refine ⟨B, ?_, ⟨by rw [hB, hA]; rfl, fun a x y z => by rw [bn a y z, an a x], fun f x y => by rw [bn 93 (by decide) (by decide), hA, wi_at, if_neg y, wi_at, if_neg x]⟩, by rw [bn 93 (by decide) (by decide)]; exact a6, by rw [bn 93 (by decide) (by decide)]; exact a7, fun k hk => ?_⟩
  · unfold ja_X7_bring
    have w12 : nk_w (((i * 20 : Nat) : Int) + 12) = ((i * 20 + 12 : Nat) : Int) := wiadd (a := i * 20) (c := 12) (by omega)
    rw [lt_eq, lt_eq, ← hA, wi20 hi, lt_eq, w12]
    clear w12
    have e1 : (nk_cp A 94 (i * 20) 98 0 l).1 93 = A.1 93 := cp_n (by decide)
    have e2 : (nk_cp (nk_cp A 94 (i * 20) 98 0 l) 95 (i * 20) 99 0 l).1 93 = A.1 93 := by rw [cp_n (by decide), cp_n (by decide)]
    have e3 : (nk_cp (nk_cp (nk_cp A 94 (i * 20) 98 0 l) 95 (i * 20) 99 0 l) 94 (i * 20 + 12) 98 12 g).1 93 = A.1 93 := by rw [cp_n (by decide), cp_n (by decide), cp_n (by decide)]
    rw [a6, if_pos (by omega), lt_eq, jc_93_0, jc_93_4, Int.toNat_natCast, Int.toNat_natCast, e1, a6, if_pos (by omega), lt_eq, jc_93_1, jc_93_5, Int.toNat_natCast, e2, a7, if_pos (by omega), lt_eq, Int.toNat_natCast, Int.toNat_natCast, e3, a7, if_pos (by omega), lt_eq, Int.toNat_natCast, ← hB]
  · rw [b98, b99]
    have := hrow k hk
    by_cases c : 12 ≤ k ∧ k < 12 + g
    · rw [if_pos c, if_pos c]; exact this
    · rw [if_neg c, if_neg c, if_pos (by unfold rel at hk; omega), if_pos (by unfold rel at hk; omega)]; exact this
theorem cRw_2 (hr : cRw lc h S u) {a c : Nat} {v1 f1 v2 f2 : Int} {wa wc : jW} (h1 : cSt v1 f1 wa) (h2 : cSt v2 f2 wc) {T : nk_S} (t6 : T.1 93 6 = S.1 93 6) (t7 : T.1 93 7 = S.1 93 7) (t8 : ∀ i, T.1 98 i = if i = c then v2 else if i = a then v1 else S.1 98 i) (t9 : ∀ i, T.1 99 i = if i = c then f2 else if i = a then f1 else S.1 99 i) : cRw lc h T (qUp (qUp u a wa) c wc) := by
  refine ⟨by rw [t6]; exact hr.1, by rw [t7]; exact hr.2.1, fun i hi => ?_⟩
  rw [t8, t9]
  unfold qUp
  by_cases q : i = c
  · rw [if_pos q, if_pos q, if_pos q]; exact h2
  · rw [if_neg q, if_neg q, if_neg q]
    by_cases q2 : i = a
    · rw [if_pos q2, if_pos q2, if_pos q2]; exact h1
    · rw [if_neg q2, if_neg q2, if_neg q2]; exact hr.2.2 i hi
theorem c_int2 {w w' : jW} {f g : Int} (h : cV f (fBt w)) (k : cV g (fBt w')) : cV (nk_land (nk_lor f g) 68719476735) (iS (sOr w.2.2.2.2 w'.2.2.2.2)) := by
  refine ⟨lR_and _ _, fun j hj => ?_⟩
  rw [lb_and, lb_or, h.2 j hj, k.2 j hj, lk_36 j hj]
  unfold iS sOr fBt
  by_cases c : j < 36
  · rw [if_pos (show j < 48 by omega), if_pos (show j < 48 by omega), decide_eq_true c, Bool.and_true, Bool.true_and]
  · rw [decide_eq_false c, Bool.and_false, Bool.false_and]
theorem iS_48 {f : Nat → Bool} : ∀ j, iS f j = true → j < 48 := by
  intro j hj
  unfold iS at hj
  rw [Bool.and_eq_true] at hj
  have := of_decide_eq_true hj.1
  omega
theorem bi_nn {α : Type} (o : Option α) (S : nk_S) : (if bi o.isNone = 0 then some ((1 : Int), S) else some (0, S)) = some (bi o.isSome, S) := by
  cases o with
  | none => rfl
  | some a => rfl
theorem c_mkEq (hT : thG F dn up) (hr : cRw lc h S u) (hw : ∀ k, wOk F (u k)) {a c : Nat} (ha : rel lc h a ∧ a < 20) (hc : rel lc h c ∧ c < 20) (hne : a ≠ c) (ka : (u a).1 = 1) (kc : (u c).1 = 1) : ∃ S', ja_X4_makeEqual 92 (a : Int) (c : Int) S = some (bi (pEq u a c).isSome, S') ∧ wFr S S' ∧ ∀ v, pEq u a c = some v → cRw lc h S' v := by
  have sa := hr.2.2 a ha.1
  have sc := hr.2.2 c hc.1
  have oa := (wOk_1 (hw a) ka).1
  have oc := (wOk_1 (hw c) kc).1
  have hfs := c_int2 sa.1 sc.1
  obtain ⟨g, hg⟩ : ∃ g, g = nk_land (nk_lor (S.1 99 a) (S.1 99 c)) 68719476735 := ⟨_, rfl⟩
  rw [← hg] at hfs
  obtain ⟨x, hx⟩ : ∃ x, x = kPk (kCom (u a).2.1 (u c).2.1) := ⟨_, rfl⟩
  obtain ⟨T, hT'⟩ : ∃ T, T = nk_wi (nk_wi (nk_wi (nk_wi S 98 a x) 98 c x) 99 a (nk_lor (S.1 99 a) g)) 99 c (nk_lor (S.1 99 c) g) := ⟨_, rfl⟩
  have hfr : wFr S T := by rw [hT']; exact wFr_trans (wFr_98 _ _) (wFr_trans (wFr_98 _ _) (wFr_trans (wFr_99 _ _) (wFr_99 _ _)))
  refine ⟨T, ?_, hfr, fun v hv => ?_⟩
  · unfold ja_X4_makeEqual
    have e1 : (nk_wi (nk_wi S 98 a x) 98 c x).1 99 = S.1 99 := by rw [wi_n (by decide), wi_n (by decide)]
    have e2 : (nk_wi (nk_wi (nk_wi S 98 a x) 98 c x) 99 a (nk_lor (S.1 99 a) g)).1 99 c = S.1 99 c := by rw [wi_at, if_neg (fun q => hne q.symm), wi_n (by decide), wi_n (by decide)]
    rw [if_pos (in_i (N := 20) (by omega)), if_pos (in_i (N := 20) (by omega)), jc_92_2, jc_93_4, jc_93_5, Int.toNat_natCast, Int.toNat_natCast, sa.2.2.1 ka, sc.2.2.1 kc, c_common (rOk_iR hT oa) (rOk_iR hT oc), bd_some, ← hx, lt_eq, lt_eq, lt_eq, lt_eq, lt_eq, ← hg, e1, e2, ← hT', hx, kPk_n (c_kOk hT (fun r hr' => (kCom_ok oa oc hr').1)), bd_some, bi_nn]
    unfold pEq
    cases kCom (u a).2.1 (u c).2.1 <;> rfl
  · unfold pEq at hv
    cases hk : kCom (u a).2.1 (u c).2.1 with
    | none => rw [hk] at hv; cases hv
    | some r =>
      rw [hk] at hv hx
      cases hv
      have hx' : x = pk r := hx
      refine cRw_2 hr (wa := wFc (wRg (u a) r) (sOr (u a).2.2.2.2 (iS (sOr (u a).2.2.2.2 (u c).2.2.2.2)))) (wc := wFc (wRg (u c) r) (sOr (u c).2.2.2.2 (iS (sOr (u a).2.2.2.2 (u c).2.2.2.2)))) (T := T) (v1 := x) (f1 := nk_lor (S.1 99 a) g) (v2 := x) (f2 := nk_lor (S.1 99 c) g) ⟨c_addF sa.1 hfs iS_48, fun q => ?_, fun _ => hx', fun q => ?_⟩ ⟨c_addF sc.1 hfs iS_48, fun q => ?_, fun _ => hx', fun q => ?_⟩ (by rw [hT', wi_n (by decide), wi_n (by decide), wi_n (by decide), wi_n (by decide)]) (by rw [hT', wi_n (by decide), wi_n (by decide), wi_n (by decide), wi_n (by decide)]) (fun i => by rw [hT', wi_n (by decide), wi_n (by decide), wi_at, wi_at]) (fun i => by rw [hT', wi_at, wi_at, wi_n (by decide), wi_n (by decide)])
      · have q : (u a).1 = 0 := q; omega
      · have q : (u a).1 = 2 := q; omega
      · have q : (u c).1 = 0 := q; omega
      · have q : (u c).1 = 2 := q; omega
theorem c_mkNe (hR : R = 36 ∨ R = 72) (hT : thG F dn up) (hC : tC S R n F) (hn : n ≤ 3079) (h92 : S.2 92 1 = R) (hr : cRw lc h S u) (hw : ∀ k, wOk F (u k)) {a c : Nat} (ha : rel lc h a ∧ a < 20) (hc : rel lc h c ∧ c < 20) (hne : a ≠ c) (ka : (u a).1 = 1) (kc : (u c).1 = 1) : ∃ S', ja_X4_makeDifferent 92 (a : Int) (c : Int) S = some (bi (pNe dn up u a c).isSome, S') ∧ wFr S S' ∧ ∀ v, pNe dn up u a c = some v → cRw lc h S' v := by
  have sa := hr.2.2 a ha.1
  have sc := hr.2.2 c hc.1
  have oa := (wOk_1 (hw a) ka).1
  have oc := (wOk_1 (hw c) kc).1
  obtain ⟨x, hx⟩ : ∃ x, x = kPk (kWo dn up (u a).2.1 (u c).2.1) := ⟨_, rfl⟩
  obtain ⟨y, hy⟩ : ∃ y, y = kPk (kWo dn up (u c).2.1 (u a).2.1) := ⟨_, rfl⟩
  obtain ⟨T, hT'⟩ : ∃ T, T = nk_wi (nk_wi S 98 a x) 98 c y := ⟨_, rfl⟩
  refine ⟨T, ?_, by rw [hT']; exact wFr_trans (wFr_98 _ _) (wFr_98 _ _), fun v hv => ?_⟩
  · unfold ja_X4_makeDifferent
    rw [if_pos (in_i (N := 20) (by omega)), if_pos (in_i (N := 20) (by omega)), jc_92_2, jc_93_4, Int.toNat_natCast, Int.toNat_natCast, h92, sa.2.2.1 ka, sc.2.2.1 kc, c_without hR hT hC hn (rOk_iR hT oa) (rOk_iR hT oc), bd_some, h92, sa.2.2.1 ka, sc.2.2.1 kc, c_without hR hT hC hn (rOk_iR hT oc) (rOk_iR hT oa), bd_some, ← hx, ← hy, lt_eq, lt_eq, ← hT', hx, kPk_n (c_kOk hT (fun r hr' => (kWo_ok hT oa hr').1)), bd_some, hy, kPk_n (c_kOk hT (fun r hr' => (kWo_ok hT oc hr').1)), bd_some]
    unfold pNe
    cases kWo dn up (u a).2.1 (u c).2.1 <;> cases kWo dn up (u c).2.1 (u a).2.1 <;> rfl
  · unfold pNe at hv
    cases hk : kWo dn up (u a).2.1 (u c).2.1 with
    | none => rw [hk] at hv; cases hv
    | some l =>
      cases hk2 : kWo dn up (u c).2.1 (u a).2.1 with
      | none => rw [hk, hk2] at hv; cases hv
      | some r =>
        rw [hk, hk2] at hv
        rw [hk] at hx
        rw [hk2] at hy
        cases hv
        refine cRw_2 hr (wa := wRg (u a) l) (wc := wRg (u c) r) (T := T) (v1 := x) (f1 := S.1 99 a) (v2 := y) (f2 := S.1 99 c) ⟨sa.1, fun q => ?_, fun _ => hx, fun q => ?_⟩ ⟨sc.1, fun q => ?_, fun _ => hy, fun q => ?_⟩ (by rw [hT', wi_n (by decide), wi_n (by decide)]) (by rw [hT', wi_n (by decide), wi_n (by decide)]) (fun i => by rw [hT', wi_at, wi_at]) (fun i => ?_)
        · have q : (u a).1 = 0 := q; omega
        · have q : (u a).1 = 2 := q; omega
        · have q : (u c).1 = 0 := q; omega
        · have q : (u c).1 = 2 := q; omega
        · rw [hT', wi_n (by decide), wi_n (by decide)]
          split
          · rename_i q; rw [q]
          · split
            · rename_i q; rw [q]
            · rfl
/-- the facts that an order gives -/
theorem c_ordF {w w' : jW} (ho : wOk F w') {f g : Int} (h : cV f (fBt w)) (k : cV g (fBt w')) (S : nk_S) : cV (nk_lor f (nk_land g 16777215)) (fBt (wFc w (sOr w.2.2.2.2 (fun j => decide (j < 24) && w'.2.2.2.2 j)))) ∧ ∃ x, (∀ (l6 l8 : Int) (i : Int) (T : nk_S), (if 0 ≤ (oN w'.2.2.2.1 : Int) - 1 then ja_X4_makeOrdered_b179 l6 l8 99 i (T.1 99 i.toNat) (nk_lushr (nk_land g 68702699520) 12) (nk_lshl 1 ((oN w'.2.2.2.1 : Int) - 1)) T else ja_X4_makeOrdered_b179 l6 l8 99 i (T.1 99 i.toNat) (nk_lushr (nk_land g 68702699520) 12) 0 T) = if 0 ≤ i ∧ i < 20 then ja_X4_makeOrdered_b182 l6 l8 (nk_wi T 99 i.toNat (nk_lor (T.1 99 i.toNat) x)) else none) ∧ cV x (fun j => (decide (12 ≤ j) && decide (j < 24) && w'.2.2.2.2 (j + 12)) || oOn w'.2.2.2.1 0 j) := by
  refine ⟨c_addF h ⟨lR_and _ _, fun j hj => ?_⟩ (fun j hj => by rw [Bool.and_eq_true] at hj; have := of_decide_eq_true hj.1; omega), ?_⟩
  · rw [lb_and, k.2 j hj, lk_24 j hj]
    unfold fBt
    dsimp only
    by_cases c : j < 24
    · rw [if_pos (by omega), decide_eq_true c, Bool.and_true, Bool.true_and]
    · rw [decide_eq_false c, Bool.and_false, Bool.false_and]
  · have hl : cV (nk_lushr (nk_land g 68702699520) 12) (fun j => decide (12 ≤ j) && decide (j < 24) && w'.2.2.2.2 (j + 12)) := by
      refine ⟨lR_ushr _ _, fun j hj => ?_⟩
      have e12 : lb (nk_lushr (nk_land g 68702699520) 12) j = lb (nk_land g 68702699520) (12 + j) := lb_ushr (n := 12) (by decide) j
      rw [e12, lb_and]
      by_cases c : 12 + j < 64
      · rw [k.2 (12 + j) c, lk_ln (12 + j) c]
        unfold fBt
        dsimp only
        by_cases d : 12 ≤ j ∧ j < 24
        · rw [if_pos (by omega), decide_eq_true d.1, decide_eq_true d.2, decide_eq_true (show 24 ≤ 12 + j by omega), decide_eq_true (show 12 + j < 36 by omega), Nat.add_comm 12 j]
          show (_ && true) = (true && _)
          rw [Bool.and_true, Bool.true_and]
        · have e1 : (decide (24 ≤ 12 + j) && decide (12 + j < 36)) = false := by
            rw [← Bool.decide_and]; exact decide_eq_false (by omega)
          have e2 : (decide (12 ≤ j) && decide (j < 24)) = false := by
            rw [← Bool.decide_and]; exact decide_eq_false d
          rw [e1, e2, Bool.and_false, Bool.false_and]
      · dsimp only
        rw [lb_hi _ (by omega), Bool.false_and, decide_eq_false (show ¬ j < 24 by omega), Bool.and_false, Bool.false_and]
    cases hc : w'.2.2.2.1 with
    | none =>
      refine ⟨nk_lor (nk_lushr (nk_land g 68702699520) 12) 0, fun l6 l8 i T => ?_, ?_⟩
      · rw [show oN none = 0 from rfl, if_neg (by decide)]
        rfl
      · exact cV_or hl cV_0
    | some q =>
      have hq := ho.1 q hc
      have e : ((oN (some q) : Nat) : Int) - 1 = (q : Int) := by show ((q + 1 : Nat) : Int) - 1 = _; omega
      refine ⟨nk_lor (nk_lushr (nk_land g 68702699520) 12) (nk_lshl 1 (q : Int)), fun l6 l8 i T => ?_, ?_⟩
      · rw [e, if_pos (by omega)]
        rfl
      · have := cV_or hl (cV_one (show q < 64 by omega))
        refine ⟨this.1, fun j hj => ?_⟩
        rw [this.2 j hj]
        unfold sOr oOn
        dsimp only
        rw [Nat.zero_add]
end CWY
