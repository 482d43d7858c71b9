/-! The class orders, and goes the ways of comparisons. -/
section CWO
variable {F : Int → Prop} {dn up : Int → Int} {lc h : Nat} {S : nk_S} {u : jQ} {R n : Nat}
theorem cV_e {x : Int} {s t : Nat → Bool} (h : cV x s) (e : ∀ j, j < 64 → s j = t j) : cV x t := ⟨h.1, fun j hj => by rw [h.2 j hj, e j hj]⟩
theorem fBt_e {w : jW} {f g : Nat → Bool} (e : ∀ j, j < 48 → f j = g j) : ∀ j, fBt (wFc w f) j = fBt (wFc w g) j := by
  intro j
  show (if j < 48 then f j else _) = (if j < 48 then g j else _)
  by_cases c : j < 48
  · rw [if_pos c, if_pos c, e j c]
  · rw [if_neg c, if_neg c]; rfl
theorem kCut_ok (hT : thG F dn up) {a r : jR} {l g : Int} (hr : kCut dn up a l g = some r) : rOk F r := (kCut_mono hT ⟨Int.le_refl _, Int.le_refl _⟩ (Int.le_refl _) (Int.le_refl _) hr).1
/-- the facts behind a comparison of order -/
def oFs (u : jQ) (a c : Nat) (less : Bool) : Nat → Bool := fun j => (u a).2.2.2.2 j || (decide (j < 24) && (u c).2.2.2.2 j) || (less && decide (12 ≤ j) && decide (j < 24) && (u c).2.2.2.2 (j + 12)) || (less && oOn (u c).2.2.2.1 0 j)
theorem c_b182 {l r : Option jR} (hl : ∀ q, l = some q → iR2 q ∧ q.1 ≤ q.2) (hr : ∀ q, r = some q → iR2 q ∧ q.1 ≤ q.2) (T : nk_S) : ja_X4_makeOrdered_b182 (kPk l) (kPk r) T = some (bi (l.isSome && r.isSome), T) := by
  unfold ja_X4_makeOrdered_b182
  rw [kPk_n hl, bd_some, kPk_n hr, bd_some]
  cases l <;> cases r <;> rfl
theorem pOrd_s (u : jQ) (a c : Nat) (ls : Bool) : (pOrd dn up u a c ls).isSome = ((kCut dn up (u a).2.1 (-2147483648) ((u c).2.1.2 - (if ls = true then 1 else 0))).isSome && (kCut dn up (u c).2.1 ((u a).2.1.1 + (if ls = true then 1 else 0)) 2147483647).isSome) := by
  unfold pOrd
  cases kCut dn up (u a).2.1 (-2147483648) ((u c).2.1.2 - (if ls = true then 1 else 0)) <;> cases kCut dn up (u c).2.1 ((u a).2.1.1 + (if ls = true then 1 else 0)) 2147483647 <;> rfl
theorem c_mkOrd (hR : R = 36 ∨ R = 72) (hT : thG F dn up) (hC : tC S R n F) (hn : n ≤ 3079) (h92 : S.2 92 1 = R) (hr : cRw lc h S u) (hw : ∀ k, wOk F (u k)) {a c : Nat} (ha : rel lc h a ∧ a < 20) (hc : rel lc h c ∧ c < 20) (hne : a ≠ c) (ka : (u a).1 = 1) (kc : (u c).1 = 1) (ls : Bool) : ∃ S', ja_X4_makeOrdered 92 (a : Int) (c : Int) (bi ls) S = some (bi (pOrd dn up u a c ls).isSome, S') ∧ wFr S S' ∧ ∀ v, pOrd dn up u a c ls = some v → cRw lc h S' v := by
  have sa := hr.2.2 a ha.1
  have sc := hr.2.2 c hc.1
  have oa := (wOk_1 (hw a) ka).1
  have oc := (wOk_1 (hw c) kc).1
  have ia := rOk_iR hT oa
  have ic := rOk_iR hT oc
  obtain ⟨l, hl⟩ : ∃ l, l = kCut dn up (u a).2.1 (-2147483648) ((u c).2.1.2 - (if ls = true then 1 else 0)) := ⟨_, rfl⟩
  obtain ⟨r, hr'⟩ : ∃ r, r = kCut dn up (u c).2.1 ((u a).2.1.1 + (if ls = true then 1 else 0)) 2147483647 := ⟨_, rfl⟩
  have okl : ∀ q, l = some q → iR2 q ∧ q.1 ≤ q.2 := c_kOk hT (fun q hq => kCut_ok hT (hl ▸ hq))
  have okr : ∀ q, r = some q → iR2 q ∧ q.1 ≤ q.2 := c_kOk hT (fun q hq => kCut_ok hT (hr' ▸ hq))
  obtain ⟨d, hd⟩ : ∃ d : Int, d = if ls = true then 1 else 0 := ⟨_, rfl⟩
  have hd01 : d = 0 ∨ d = 1 := by rw [hd]; cases ls <;> simp
  have e0 : ja_X4_makeOrdered 92 (a : Int) (c : Int) (bi ls) S = ja_X4_makeOrdered_b9 92 (a : Int) (c : Int) (bi ls) d S := by
    unfold ja_X4_makeOrdered
    rw [hd]
    cases ls
    · rw [if_pos (show bi false = 0 from rfl)]; rfl
    · rw [if_neg (show ¬ bi true = 0 by decide)]; rfl
  have w1 : nk_W ((u c).2.1.2 - d) = (u c).2.1.2 - d := W_id (by have := ic.2; unfold iR at this; unfold lR; omega)
  have w2 : nk_W ((u a).2.1.1 + d) = (u a).2.1.1 + d := W_id (by have := ia.1; unfold iR at this; unfold lR; omega)
  obtain ⟨f1, x, f2, f3⟩ := c_ordF (hw c) sa.1 sc.1 S
  obtain ⟨A, hA⟩ : ∃ A, A = nk_wi (nk_wi (nk_wi S 98 a (kPk l)) 98 c (kPk r)) 99 a (nk_lor (S.1 99 a) (nk_land (S.1 99 c) 16777215)) := ⟨_, rfl⟩
  have a99 : A.1 99 a = nk_lor (S.1 99 a) (nk_land (S.1 99 c) 16777215) := by rw [hA, wi_at, if_pos rfl]
  have fA : wFr S A := by rw [hA]; exact wFr_trans (wFr_98 _ _) (wFr_trans (wFr_98 _ _) (wFr_99 _ _))
  have e1 : ja_X4_makeOrdered 92 (a : Int) (c : Int) (bi ls) S = if bi ls = 0 then ja_X4_makeOrdered_b182 (kPk l) (kPk r) A else ja_X4_makeOrdered_b182 (kPk l) (kPk r) (nk_wi A 99 a (nk_lor (A.1 99 a) x)) := by
    rw [e0]
    unfold ja_X4_makeOrdered_b9
    have q1 : (nk_wi (nk_wi S 98 a (kPk l)) 98 c (kPk r)).1 99 = S.1 99 := by rw [wi_n (by decide), wi_n (by decide)]
    rw [if_pos (in_i (N := 20) (by omega)), if_pos (in_i (N := 20) (by omega)), jc_92_2, jc_93_4, jc_93_5, Int.toNat_natCast, Int.toNat_natCast, sa.2.2.1 ka, sc.2.2.1 kc, hi_e ic, bd_some, h92, w1]
    clear w1
    rw [c_cut hR hT hC hn ia, bd_some, sa.2.2.1 ka, sc.2.2.1 kc, lo_e ia, bd_some, h92, w2]
    clear w2
    rw [c_cut hR hT hC hn ic, bd_some, hd, ← hl, ← hr', lt_eq, lt_eq, lt_eq, lt_eq, q1, ← hA, c_copy (hw c).1 sc.1, bd_some]
    have := f2 (kPk l) (kPk r) (a : Int) A
    rw [if_pos (in_i (N := 20) (by omega)), Int.toNat_natCast] at this
    rw [this]
  have hs : ∀ T, T = (if bi ls = 0 then A else nk_wi A 99 a (nk_lor (A.1 99 a) x)) → ja_X4_makeOrdered 92 (a : Int) (c : Int) (bi ls) S = some (bi (pOrd dn up u a c ls).isSome, T) ∧ wFr S T ∧ T.1 93 = S.1 93 ∧ T.1 98 = A.1 98 ∧ ∃ f, (∀ i, T.1 99 i = if i = a then f else S.1 99 i) ∧ cV f (fBt (wFc (u a) (oFs u a c ls))) := by
    intro T hT'
    have hsl : (pOrd dn up u a c ls).isSome = (l.isSome && r.isSome) := by rw [pOrd_s, hl, hr']
    rw [e1, hsl]
    by_cases q : ls = true
    · have nb : ¬ bi ls = 0 := by rw [q]; decide
      rw [if_neg nb, c_b182 okl okr]
      rw [if_neg nb] at hT'
      refine ⟨by rw [hT'], by rw [hT']; exact wFr_trans fA (wFr_99 _ _), by rw [hT', wi_n (by decide), hA, wi_n (by decide), wi_n (by decide), wi_n (by decide)], by rw [hT', wi_n (by decide)], nk_lor (A.1 99 a) x, fun i => ?_, ?_⟩
      · rw [hT', wi_at]
        by_cases c1 : i = a
        · rw [if_pos c1, if_pos c1]
        · rw [if_neg c1, if_neg c1, hA, wi_at, if_neg c1, wi_n (by decide), wi_n (by decide)]
      · rw [a99]
        refine cV_e (c_addF (w := wFc (u a) (sOr (u a).2.2.2.2 (fun j => decide (j < 24) && (u c).2.2.2.2 j))) f1 f3 (fun j hj => ?_)) (fun j _ => ?_)
        · rw [Bool.or_eq_true] at hj
          rcases hj with hj | hj
          · rw [Bool.and_eq_true, Bool.and_eq_true] at hj
            have := of_decide_eq_true hj.1.2
            omega
          · cases hcp : (u c).2.2.2.1 with
            | none => rw [hcp] at hj; cases hj
            | some k =>
              rw [hcp] at hj
              have hk := (hw c).1 k hcp
              have hj : decide (j = 0 + k) = true := hj
              have := of_decide_eq_true hj
              omega
        · refine fBt_e (w := u a) (fun j _ => ?_) j
          unfold oFs
          rw [q]
          show (((u a).2.2.2.2 j || (decide (j < 24) && (u c).2.2.2.2 j)) || ((decide (12 ≤ j) && decide (j < 24) && (u c).2.2.2.2 (j + 12)) || oOn (u c).2.2.2.1 0 j)) = _
          rw [Bool.true_and, Bool.true_and, Bool.or_assoc ((u a).2.2.2.2 j || (decide (j < 24) && (u c).2.2.2.2 j))]
    · have q : ls = false := by cases ls <;> simp_all
      have nb : bi ls = 0 := by rw [q]; rfl
      rw [if_pos nb, c_b182 okl okr]
      rw [if_pos nb] at hT'
      refine ⟨by rw [hT'], by rw [hT']; exact fA, by rw [hT', hA, wi_n (by decide), wi_n (by decide), wi_n (by decide)], by rw [hT'], nk_lor (S.1 99 a) (nk_land (S.1 99 c) 16777215), fun i => ?_, ?_⟩
      · rw [hT', hA, wi_at, wi_n (by decide), wi_n (by decide)]
      · refine cV_e f1 (fun j' _ => fBt_e (w := u a) (fun j _ => ?_) j')
        unfold oFs
        rw [q]
        show ((u a).2.2.2.2 j || (decide (j < 24) && (u c).2.2.2.2 j)) = _
        rw [Bool.false_and, Bool.false_and, Bool.false_and, Bool.false_and, Bool.or_false, Bool.or_false]
  obtain ⟨T, hT'⟩ : ∃ T, T = (if bi ls = 0 then A else nk_wi A 99 a (nk_lor (A.1 99 a) x)) := ⟨_, rfl⟩
  obtain ⟨t1, t2, t3, t4, f, t5, t6⟩ := hs T hT'
  refine ⟨T, t1, t2, fun v hv => ?_⟩
  clear hs e1 w1 w2
  unfold pOrd at hv
  rw [← hl, ← hr'] at hv
  cases l with
  | none => cases hv
  | some l =>
    cases r with
    | none => cases hv
    | some r =>
      cases hv
      refine cRw_2 hr (wa := wFc (wRg (u a) l) (oFs u a c ls)) (wc := wRg (u c) r) (T := T) (v1 := pk l) (f1 := f) (v2 := pk r) (f2 := S.1 99 c) ⟨t6, fun q => ?_, fun _ => rfl, fun q => ?_⟩ ⟨sc.1, fun q => ?_, fun _ => rfl, fun q => ?_⟩ (by rw [t3]) (by rw [t3]) (fun i => ?_) (fun i => ?_)
      · have q : (u a).1 = 0 := q; omega
      · have q : (u a).1 = 2 := q; omega
      · have q : (u c).1 = 0 := q; omega
      · have q : (u c).1 = 2 := q; omega
      · rw [t4, hA, wi_n (by decide), wi_at, wi_at]; rfl
      · rw [t5]
        by_cases c1 : i = c
        · rw [if_neg (fun q : i = a => hne (q.symm.trans c1)), if_pos c1, c1]
        · rw [if_neg c1]
theorem c_pass (hT : thG F dn up) (hr : cRw lc h S u) (hw : ∀ k, wOk F (u k)) (hcp : qCp lc u) {s : Nat} (hs : rel lc h s ∧ s < 20) (ks : (u s).1 = 1) : ∃ S', ja_X4_passOn 92 (s : Int) S = some (bi (qPs u s).isSome, S') ∧ wFr S S' ∧ ∀ v, qPs u s = some v → cRw lc h S' v := by
  have ss := hr.2.2 s hs.1
  have os := (wOk_1 (hw s) ks).1
  obtain ⟨S', s1, s2, s3⟩ := c_narrow hT hr hw hcp hs.1 ks hs.2 (rOk_iR hT os) (c_int ss.1) iS_48 (fun k q hq hk => ⟨rOk_iR hT (kCom_ok (wOk_1 (hw k) hk).1 os hq).1, (kCom_ok (wOk_1 (hw k) hk).1 os hq).1.2.2⟩)
  refine ⟨S', ?_, s2, s3⟩
  unfold ja_X4_passOn qPs
  rw [if_pos (in_i (N := 20) (by omega)), jc_92_2, jc_93_4, jc_93_5, Int.toNat_natCast, ss.2.2.1 ks, s1, bd_some]
  have : bi (qNr u s (u s).2.1 (iS (u s).2.2.2.2)).isSome = 0 ∨ bi (qNr u s (u s).2.1 (iS (u s).2.2.2.2)).isSome = 1 := by cases (qNr u s (u s).2.1 (iS (u s).2.2.2.2)).isSome <;> simp [bi]
  rw [if_pos this]
end CWO
