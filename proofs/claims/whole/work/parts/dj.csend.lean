/-! The class looks at calls and sends. -/
section CSD
variable {ns : List (List Int)} {us : List Int} {fl : List (List Int × Nat × Int)} {bl : List jB} {z : jL} {el : List (Nat × Nat × Nat × Nat)} {F : Int → Prop} {dn up : Int → Int} {H lc : Nat → Nat} {ty : Nat → Option (Nat → Int)} {th : Nat → Int} {n Q m0 : Nat} {σ : jG} {C : jH} {i : Nat} {x : jC} {u : jQ} {S T : nk_S} {A : jA} {W : Nat → Bool}
theorem fJ_one {f : Nat → Option jW} {b : Nat} : ∀ m, fJ f (fun k => decide (k = b)) m = if b < m then f b else none := by
  intro m
  induction m with
  | zero => rfl
  | succ m ih =>
    rw [fJ, ih]
    by_cases e : m = b
    · rw [if_neg (by omega), if_pos (decide_eq_true e), if_pos (by omega), e]; rfl
    · rw [if_neg (c := decide (m = b) = true) (by rw [decide_eq_false e]; decide), oJ_n]
      by_cases e2 : b < m
      · rw [if_pos e2, if_pos (by omega)]
      · rw [if_neg e2, if_neg (by omega)]
theorem exB_one {P : Nat → Bool} {b m : Nat} (hb : b < m) : exB (fun k => decide (k = b) && P k) m = P b := by
  cases hp : P b with
  | true => exact (exB_iff m).mpr ⟨b, hb, by rw [hp, decide_eq_true rfl]; rfl⟩
  | false =>
    refine nf_t fun q => ?_
    obtain ⟨k, k1, k2⟩ := (exB_iff m).mp q
    rw [Bool.and_eq_true] at k2
    have := of_decide_eq_true k2.1
    rw [this, hp] at k2
    cases k2.2
/-- the called body -/
theorem cal_at (hk : kX F th n dn up ns us fl bl z el H lc ty Q) (hx : z.1[i]? = some x) {a b : Nat} {l : Int} (p1 : cW ns us fl bl z.2.1 a b l x) (hb : ∀ y ∈ bl, y.rs = -1 ∨ (tV us y.rs ∧ (y.rs = 1 ∨ 2 ≤ y.rs))) (ho : x.1 = 39 ∨ x.1 = 40) : ∃ (f c : Nat) (y : jB), x.2.1 = (f : Int) ∧ bl[f]? = some y ∧ y.me = decide (x.1 = 40) ∧ x.2.2.1 = (c : Int) ∧ 8 ≤ c ∧ c < us.length ∧ tkX bl x = y.ps.length ∧ lvX bl x = (if y.rs = -1 then 0 else 1) ∧ (y.rs = 1 ∨ 2 ≤ y.rs ∨ y.rs = -1) := by
  obtain ⟨f, c, y, q1, q2, q3, q4, q5, q6⟩ := p1.2.2.2.2.2.2.1 ho
  have hl := un_len hk.2.1 hx
  have h8 := (hk.2.1.2.2.2.2.2.2.2.2.2 i x hx).2.2.2 ho
  refine ⟨f, c, y, q1, q2, q3, q4, by omega, by omega, ?_, ?_, ?_⟩
  · unfold tkX; rw [if_pos ho, q1, Int.toNat_natCast, q2]
  · unfold lvX; rw [if_pos ho, q1, Int.toNat_natCast, q2]
  · rcases hb y (List.mem_of_getElem? q2) with r | r
    · exact Or.inr (Or.inr r)
    · rcases r.2 with r | r
      · exact Or.inl r
      · exact Or.inr (Or.inl r)
theorem pGo_call {G : jZ} {h : Nat} (ho : x.1 = 39 ∨ x.1 = 40) : pGo G σ x h u = oB (if x.1 = 40 then pDr u (12 + h - tkX (zBl G) x) else some u) fun v => if exB (fun b => pMt (zUs G) (zBl G) (zZ G) x u (12 + h - tkX (zBl G) x) b && σ.2.1 b) 48 = true then (if lvX (zBl G) x = 0 then some v else oB (pRt σ (pMt (zUs G) (zBl G) (zZ G) x u (12 + h - tkX (zBl G) x))) fun l => some (qUp v (12 + h - tkX (zBl G) x) l)) else none := by
  unfold pGo
  rw [if_neg (by omega), if_neg (by omega), if_neg (by omega), if_neg (by omega), if_neg (by omega), if_neg (by omega), if_neg (by omega), if_neg (by omega), if_neg (by omega), if_neg (by omega), if_neg (by omega), if_neg (by omega), if_neg (by omega), if_neg (by omega), if_neg (by omega), if_neg (by omega), if_neg (by omega), if_neg (by omega), if_neg (by omega), if_pos ho]
theorem pRz_39 {G : jZ} {h : Nat} (hx : x.1 = 39) (e : Nat) (he : e < 6) : pRz G σ x h u e = false := by
  unfold pRz
  rcases e_6 he with rfl | rfl | rfl | rfl | rfl | rfl
  · rw [if_pos rfl, if_neg (by omega), if_neg (by omega), if_neg (by omega), if_neg (by omega)]
  · rw [if_neg (by decide), if_pos rfl, if_neg (by omega), if_neg (by omega)]
  · rw [if_neg (by decide), if_neg (by decide), if_pos rfl, decide_eq_false (by omega), Bool.false_and]
  · rw [if_neg (by decide), if_neg (by decide), if_neg (by decide), if_pos rfl, decide_eq_false (by omega), Bool.false_and]
  · rw [if_neg (by decide), if_neg (by decide), if_neg (by decide), if_neg (by decide), if_pos rfl, decide_eq_false (by omega), Bool.false_and]
  · rw [if_neg (by decide), if_neg (by decide), if_neg (by decide), if_neg (by decide), if_neg (by decide), if_pos rfl, if_neg (by omega)]
/-- what calls find -/
theorem fd_cl {G : jZ} {h : Nat} {b0 b7 : Bool} {L : Nat → Bool} (ho : x.1 = 39 ∨ x.1 = 40) (hr : ∀ e, e < 6 → pRz G σ x h u e = (b0 && decide (e = 0))) (h7 : b7 = ((decide (x.1 = 39) || (pDr u (12 + h - tkX (zBl G) x)).isSome) && exB (fun b => pMt (zUs G) (zBl G) (zZ G) x u (12 + h - tkX (zBl G) x) b && sEx (σ.2.2 b)) 48)) (hL : ∀ s, L s = ((decide (x.1 = 39) || (pDr u (12 + h - tkX (zBl G) x)).isSome) && exB (fun b => pMt (zUs G) (zBl G) (zZ G) x u (12 + h - tkX (zBl G) x) b && σ.2.2 b s) 48)) : nlR b7 7 (nlR b0 0 (onS 8)) = pFd G σ x h u ∧ sOr (nlR b0 48 noS) L = pLs G σ x h u := by
  constructor
  · funext e
    rw [nlR_at, nlR_at]
    unfold pFd
    split
    · rw [hr e (by assumption), show onS 8 e = false from decide_eq_false (by omega), decide_eq_false (p := e = 7) (by omega), Bool.and_false, Bool.or_false, Bool.false_or]
    · rw [decide_eq_false (p := e = 0) (by omega), Bool.and_false, Bool.or_false]
      split
      · rename_i q; rw [q, decide_eq_false (p := x.1 = 41) (by omega)]; rw [show decide (6 = 7) = false from rfl, Bool.and_false, Bool.or_false, Bool.false_and]; rfl
      · split
        · rename_i q; rw [q, decide_eq_true ho, Bool.true_and, ← h7, show decide (7 = 7) = true from rfl, Bool.and_true]; rfl
        · rename_i q; rw [decide_eq_false q, Bool.and_false, Bool.or_false]; rfl
  · funext j
    unfold pLs
    have ht : pTh G σ x h u j = L j := by
      unfold pTh
      rw [if_neg (by omega), hL]
      by_cases c : x.1 = 39
      · rw [if_pos c, decide_eq_true c, Bool.true_or, Bool.true_and]
      · rw [if_neg c, if_pos (by omega), decide_eq_false c, Bool.false_or]
    rw [ht]
    show (nlR b0 48 noS j || L j) = (L j || _)
    rw [Bool.or_comm]
    congr 1
    rw [nlR_at, show noS j = false from rfl, Bool.false_or]
    by_cases q : 48 ≤ j ∧ j < 54
    · rw [decide_eq_true q.1, decide_eq_true q.2, Bool.true_and, Bool.true_and, hr (j - 48) (by omega)]
      congr 1
      exact decide_eq_decide.mpr (by omega)
    · rw [decide_eq_false (p := j = 48) (by omega), Bool.and_false]
      by_cases q1 : 48 ≤ j
      · rw [decide_eq_false (p := j < 54) (by omega), Bool.and_false, Bool.false_and]
      · rw [decide_eq_false q1, Bool.false_and, Bool.false_and]
theorem h_call (hk : kX F th n dn up ns us fl bl z el H lc ty Q) (hT : lkS F dn up ns us fl bl z el H lc ty m0 Q S A W σ C i u T) (hx : z.1[i]? = some x) (hu : A i = some u) (ho : x.1 = 39) : ∃ S1, ja_X4_calls 92 (i : Int) 39 T = some (bi (pGo (dn, up, (ns, us, fl, bl, z, el), H) σ x (H i) u).isSome, S1) ∧ lkH F th n dn up ns us fl bl z el H lc ty m0 Q S A W σ C i x u S1 := by
  obtain ⟨t1, t2, t3, t4, t5⟩ := hT
  obtain ⟨t, xb, e, a1, a2, ⟨⟨p1, p2, p3, p4, p5, p6⟩, ⟨c1, c2, c3⟩, -, -, -, ⟨d1, d2⟩, ⟨l1, l2, l3, l4, l5⟩, -, y1, y2⟩, hd, hg, hlk⟩ := lk_at hk t2 hx hu
  obtain ⟨b, c, y, q1, q2, q3, q4, q5, q6, q7, q8, q9⟩ := cal_at hk hx p1 y2 (Or.inl ho)
  obtain ⟨e0, x0, r1, r2, r3, r4, r5⟩ := bod_at hk.2.1 q2
  have hb48 := bl_48 l2 q2
  have hAw := aWf_of t2.2.2.2.2.2.1.1
  have hen : y.rs = -1 → σ.1 (2700 + b) = none := t2.2.2.2.2.2.2.2 b y q2
  obtain ⟨S1, cc, s1, s2, s3, s4, s5, s6, s7, s8, s9, s10⟩ := c_call (p := (ns, us, fl, bl, z, el)) (G := (dn, up, (ns, us, fl, bl, z, el), H)) (u := u) (x := x) hk.1 hk.2.1.1 t2.1 hk.2.2.2.2 hx rfl hg t2.2.2.2.2.1 t2.2.2.1 hAw t2.2.2.2.1 t4 t5 l2 q1 q2 r1 r2 r3 r4 r5 (by omega) (pEn_wo a2.1.1 (fun s q => by cases q)) (fun j q => by have := sV_54 l4 j (hg.2.1 b j q); omega) q9 hen (fun q => by rw [q7, q8, if_neg q] at c2; omega)
  have hpm : pMt us bl z x u (12 + H i - tkX bl x) = fun k => decide (k = b) := by
    funext k
    unfold pMt
    rw [if_pos ho, q1, Int.toNat_natCast]
  have hrt : pRt σ (pMt us bl z x u (12 + H i - tkX bl x)) = if σ.2.1 b = true then σ.1 (2700 + b) else none := by
    unfold pRt
    rw [hpm, fJ_one, if_pos hb48]
  have hE : pEd (dn, up, (ns, us, fl, bl, z, el), H) σ i x u lc e0.1 (qRs (lc e0.1) (H e0.1) (pEn y u (12 + H i - tkX bl x) none)) := Or.inr (Or.inr (Or.inr (Or.inl ⟨ho, y, e0, by rw [q1, Int.toNat_natCast]; exact q2, by rw [q1, Int.toNat_natCast]; exact r1, rfl, rfl⟩)))
  obtain ⟨o1, o2, o3, -⟩ := pIn_arr hk.2.1 t2.2.2.2.2.2.1 hlk hE
  rw [← q7] at s5 s7
  obtain ⟨j1, j2⟩ := aCh_arr (W := W) hk.2.2.2.1 (j := e0.1) (by have := at_lt r2; omega) t2.1.2.2.2.2 hAw (qRs_wf (l := lc e0.1) (g := H e0.1) (pEn_wo (u := u) (y := y) (low := 12 + H i - tkX bl x) (o := none) a2.1.1 (fun s q => by cases q))) s7
  have fr : mFr T S1 := ⟨s2, fun a ha => s3 a (by omega)⟩
  have hgo : pGo (dn, up, (ns, us, fl, bl, z, el), H) σ x (H i) u = if σ.2.1 b = true then (if lvX bl x = 0 then some u else oB (if σ.2.1 b = true then σ.1 (2700 + b) else none) fun l => some (qUp u (12 + H i - tkX bl x) l)) else none := by
    rw [pGo_call (Or.inl ho), if_neg (by omega)]
    show (if exB (fun b => pMt us bl z x u (12 + H i - tkX bl x) b && σ.2.1 b) 48 = true then (if lvX bl x = 0 then some u else oB (pRt σ (pMt us bl z x u (12 + H i - tkX bl x))) fun l => some (qUp u (12 + H i - tkX bl x) l)) else none) = _
    rw [hrt, hpm, exB_one hb48]
  have hsome : (pGo (dn, up, (ns, us, fl, bl, z, el), H) σ x (H i) u).isSome = σ.2.1 b := by
    rw [hgo]
    cases hb : σ.2.1 b with
    | false => rfl
    | true =>
      rw [if_pos rfl, if_pos rfl]
      by_cases hl : lvX bl x = 0
      · rw [if_pos hl]; rfl
      · rw [if_neg hl]
        cases hv : σ.1 (2700 + b) with
        | none => exact absurd hv (hg.2.2 b y hb q2 (fun q => hl (by rw [q8, if_pos q])))
        | some w => rfl
  obtain ⟨f1, f2⟩ := fd_cl (G := (dn, up, (ns, us, fl, bl, z, el), H)) (σ := σ) (x := x) (h := H i) (u := u) (b0 := false) (b7 := sEx (σ.2.2 b)) (L := σ.2.2 b) (Or.inl ho) (fun e he => by rw [pRz_39 ho e he]; rfl) (by
      show _ = (_ && exB (fun b => pMt us bl z x u (12 + H i - tkX bl x) b && sEx (σ.2.2 b)) 48)
      rw [hpm, exB_one (P := fun k => sEx (σ.2.2 k)) hb48, decide_eq_true ho, Bool.true_or, Bool.true_and]) (fun s => by
      show _ = (_ && exB (fun b => pMt us bl z x u (12 + H i - tkX bl x) b && σ.2.2 b s) 48)
      rw [hpm, exB_one (P := fun k => σ.2.2 k s) hb48, decide_eq_true ho, Bool.true_or, Bool.true_and])
  refine ⟨S1, by rw [hsome]; exact s1, _, _, σ, C, mFr_trans t1 fr, ⟨cPv_m hk.1 fr t2.1, cFy_m fr t2.2.1, s5, s6, cGm_1 (fun a h1 h2 => s3 a (by omega)) t2.2.2.2.2.1, o1, lnI_arr t2.2.2.2.2.2.2.1 (qI_rs (pEn_I (t2.2.2.2.2.2.2.1.1 i u hu) _ (fun s' q => by cases q)) _ _), t2.2.2.2.2.2.2.2⟩, j1, gCg_rfl, gLe_refl σ, ?_, ?_, fun j w hE' _ => ?_, fun k => ?_, fun q => by omega, fun v hv => ?_⟩
  · rw [← f1, ← f2]; exact s8
  · rw [s4 11 (by decide) (by decide) (by decide) (by decide)]; exact t3
  · rcases hE' with ⟨-, v, w1, w2, w3⟩ | ⟨w1, w2, -⟩ | ⟨-, y', e', w1, w2, w3, w4⟩ | ⟨w1, -⟩
    · exact Or.inl ⟨v, w1, by rw [w2, if_neg (by omega)], w3⟩
    · omega
    · right
      have w1 : bl[x.2.1.toNat]? = some y' := w1
      have w2 : el[x.2.1.toNat]? = some e' := w2
      rw [q1, Int.toNat_natCast, q2] at w1
      rw [q1, Int.toNat_natCast, r1] at w2
      cases w1
      cases w2
      rw [w4, w3]
      exact o3
    · omega
  · rw [pCo_n ⟨by omega, by omega, by omega, by omega, by omega⟩]
    exact oLe_n _
  · rw [hgo] at hv
    split at hv
    · rename_i hb
      by_cases hr : y.rs = -1
      · rw [q8, if_pos hr, if_pos rfl] at hv
        cases hv
        rw [q7, q8, if_pos hr]
        exact s9 hr
      · rw [q8, if_neg hr, if_neg (by decide)] at hv
        obtain ⟨wv, w1, w2⟩ := oB_some hv
        cases w2
        rw [q7, q8, if_neg hr, show 12 + H i - y.ps.length = 12 + (H i - y.ps.length) by omega]
        exact s10 wv (by rw [if_pos hb]; exact w1) hr
    · cases hv
end CSD
