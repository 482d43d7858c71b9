/-! The class looks whether an index stays inside. -/
section CIN
variable {F : Int → Prop} {S : nk_S} {Q : Nat} {p : jP} {H lc : Nat → Nat} {us : List Int} {fl : List (List Int × Nat × Int)} {bl : List jB} {z : jL} {t : Nat → Int} {u : jQ} {i : Nat} {x : jC} {G : jZ} {σ : jG} {C : jH} {l h : Nat} {th : Nat → Int} {n : Nat}
theorem fBt_f {w : jW} {j : Nat} (hj : j < 48) : fBt w j = w.2.2.2.2 j := by unfold fBt; rw [if_pos hj]
theorem c_inside (hT : thG F (zDn G) (zUp G)) (hr : cRw l h S u) (hw : ∀ k, wOk F (u k)) {r c : Nat} (h1 : rel l h r ∧ r < 20) (h2 : rel l h c ∧ c < 20) (kc : (u c).1 = 1) {a : jR} (ia : iR2 a) : ja_X4_staysInside 92 (r : Int) (c : Int) (pk a) S = some (bi (!(decide ((u c).2.1.1 < 0) || !pUn u r c a)), S) := by
  have sr := hr.2.2 r h1.1
  have sc := hr.2.2 c h2.1
  have oc := (wOk_1 (hw c) kc).1
  have ic := rOk_iR hT oc
  have hsz : cV (nk_land (nk_land (S.1 99 c) (nk_lushr (S.1 99 r) 36)) 4095) (fun j => decide (j < 12) && ((u c).2.2.2.2 j && (u r).2.2.2.2 (36 + j))) := by
    refine ⟨lR_and _ _, fun j hj => ?_⟩
    have e36 : lb (nk_lushr (S.1 99 r) 36) j = lb (S.1 99 r) (36 + j) := lb_ushr (n := 36) (by decide) j
    rw [lb_and, lb_and, lk_12 j hj, e36]
    dsimp only
    by_cases d : j < 12
    · rw [decide_eq_true d, Bool.and_true, Bool.true_and, sc.1.2 j hj, sr.1.2 (36 + j) (by omega), fBt_f (by omega), fBt_f (by omega)]
    · rw [decide_eq_false d, Bool.and_false, Bool.false_and]
  have hszz : nk_land (nk_land (S.1 99 c) (nk_lushr (S.1 99 r) 36)) 4095 = 0 ↔ exB (fun j => (u c).2.2.2.2 j && (u r).2.2.2.2 (36 + j)) 12 = false := by
    rw [cV_z hsz]
    constructor
    · intro q
      refine nf_t fun e => ?_
      obtain ⟨j, j1, j2⟩ := (exB_iff 12).mp e
      have := q j (by omega)
      rw [decide_eq_true j1, Bool.true_and, j2] at this
      cases this
    · intro q j _
      by_cases d : j < 12
      · rw [decide_eq_true d, Bool.true_and]
        refine nf_t fun e => ?_
        rw [(exB_iff 12).mpr ⟨j, d, e⟩] at q
        cases q
      · rw [decide_eq_false d, Bool.false_and]
  obtain ⟨sz, hsz'⟩ : ∃ sz, sz = exB (fun j => (u c).2.2.2.2 j && (u r).2.2.2.2 (36 + j)) 12 := ⟨_, rfl⟩
  rw [← hsz'] at hszz
  have hb98 : ∀ b : Bool, ja_X4_staysInside_b98 92 (c : Int) (pk a) (bi b) (bi sz) S = some (bi (b || sz || decide ((u c).2.1.2 < a.1)), S) := by
    intro b
    unfold ja_X4_staysInside_b98
    cases b with
    | true => rw [if_neg (show ¬ bi true = 0 by decide)]; rfl
    | false =>
      rw [if_pos (show bi false = 0 from rfl)]
      cases sz with
      | true => rw [if_neg (show ¬ bi true = 0 by decide)]; rfl
      | false =>
        rw [if_pos (show bi false = 0 from rfl), if_pos (in_i (N := 20) (by omega)), jc_92_2, jc_93_4, Int.toNat_natCast, sc.2.2.1 kc, hi_e ic, bd_some, lo_e ia, bd_some]
        by_cases d : (u c).2.1.2 < a.1
        · rw [if_neg (by omega), decide_eq_true d]; rfl
        · rw [if_pos (by omega), decide_eq_false d]; rfl
  have hb67 : ∀ b : Bool, ja_X4_staysInside_b67 92 (r : Int) (c : Int) (pk a) (S.1 99 c) (bi b) S = some (bi (b || sz || decide ((u c).2.1.2 < a.1)), S) := by
    intro b
    unfold ja_X4_staysInside_b67
    rw [if_pos (in_i (N := 20) (by omega)), jc_92_2, jc_93_5, Int.toNat_natCast, ← hb98 b]
    cases hq : sz with
    | false => rw [if_pos (hszz.mpr hq)]; rfl
    | true => rw [if_neg (fun q => by rw [hszz.mp q] at hq; cases hq)]; rfl
  unfold ja_X4_staysInside
  rw [if_pos (in_i (N := 20) (by omega)), jc_92_2, jc_93_4, jc_93_5, Int.toNat_natCast, sc.2.2.1 kc, lo_e ic, bd_some]
  by_cases d : (u c).2.1.1 < 0
  · rw [if_neg (by omega), decide_eq_true d]; rfl
  · rw [if_pos (by omega), decide_eq_false d, lt_eq, if_pos (in_i (N := 20) (by omega)), Int.toNat_natCast, c_copy (hw r).1 sr.1, bd_some, Bool.false_or, Bool.not_not]
    unfold pUn
    rw [← hsz']
    cases hcp : (u r).2.2.2.1 with
    | none =>
      rw [show oN none = 0 from rfl, if_pos (by decide)]
      exact hb67 false
    | some k =>
      have hk := (hw r).1 k hcp
      have e : ((oN (some k) : Nat) : Int) - 1 = (k : Int) := by show ((k + 1 : Nat) : Int) - 1 = _; omega
      have hn : ¬ (k : Int) < 0 := by omega
      have hk64 : 12 + k < 64 := by omega
      have hk48 : 12 + k < 48 := by omega
      have ew : nk_w (12 + (k : Int)) = ((12 + k : Nat) : Int) := by rw [nk_w_id (by omega) (by omega)]; omega
      have hbit := c_bitAt sc.1 hk64
      rw [fBt_f hk48] at hbit
      rw [e, if_neg hn, ew]
      cases hq : (u c).2.2.2.2 (12 + k) with
      | false =>
        rw [if_pos (hbit.mpr hq)]
        show _ = some (bi ((u c).2.2.2.2 (12 + k) || sz || decide ((u c).2.1.2 < a.1)), S)
        rw [hq]
        exact hb67 false
      | true =>
        rw [if_neg (fun q => by rw [hbit.mp q] at hq; cases hq)]
        show _ = some (bi ((u c).2.2.2.2 (12 + k) || sz || decide ((u c).2.1.2 < a.1)), S)
        rw [hq]
        exact hb67 true
end CIN
