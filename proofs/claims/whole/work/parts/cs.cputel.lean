/-! The class puts elements. -/
/-- the table when a value is put into arrays of sites -/
def peG (us : List Int) (z : jL) (w : Nat → Bool) (q : jW) (σ : jG) : Nat → jG
  | 0 => σ
  | s + 1 => if w s = true then (match pHl us z s q with
    | none => peG us z w q σ s
    | some q' => gAd (peG us z w q σ s) (2592 + s) q') else peG us z w q σ s
/-- sites of arrays that a value can be put into -/
def puS (F : Int → Prop) (us : List Int) (z : jL) (q : jW) (w : Nat → Bool) : Prop := ∀ s, s < 54 → w s = true → s < z.2.1.length ∧ (tEl (sTp z s) = 1 ∨ 2 ≤ tEl (sTp z s)) ∧ (tEl (sTp z s) = 1 ↔ q.1 = 1) ∧ tAr (sTp z s) = true ∧ ∀ q', pHl us z s q = some q' → vl1 F us z (tEl (sTp z s)) q'
/-- a value that does not suit all sites -/
def peR (us : List Int) (z : jL) (w : Nat → Bool) (q : jW) (s : Nat) : Bool := decide (q.1 ≠ 1) && exB (fun s => w s && sEx (sMi q.2.2.1 (sOr (pB us z (tEl (sTp z s))) (onS 62)))) s
def peS (us : List Int) (z : jL) (w : Nat → Bool) (q : jW) (s : Nat) : Bool := decide (q.1 = 1) || exB (fun s => w s && (pHl us z s q).isSome) s
/-- rows and errors aside, only the table changes -/
def rFm (S T : nk_S) : Prop := T.2 = S.2 ∧ (∀ a, a < 92 ∨ (93 ≤ a ∧ a ≤ 99) ∨ 107 ≤ a → T.1 a = S.1 a) ∧ ∀ f, f ≠ 9 → f ≠ 10 → T.1 92 f = S.1 92 f
theorem rFm_rfl {S : nk_S} : rFm S S := ⟨rfl, fun _ _ => rfl, fun _ _ _ => rfl⟩
theorem rFm_trans {S1 S2 S3 : nk_S} (h : rFm S1 S2) (k : rFm S2 S3) : rFm S1 S3 := ⟨k.1.trans h.1, fun a x => (k.2.1 a x).trans (h.2.1 a x), fun f x y => (k.2.2 f x y).trans (h.2.2 f x y)⟩
theorem rFm_s {S S' : nk_S} (h : sFr S S') : rFm S S' := ⟨h.1, fun a x => h.2 a (by omega), fun f _ _ => by rw [h.2 92 (by omega)]⟩
theorem rFm_k {S S' : nk_S} (h : rFm S S') : kFr S S' := ⟨h.1, fun a x => h.2.1 a (by omega), h.2.2⟩
theorem cRw_r {l h : Nat} {S S' : nk_S} {u : jQ} (f : rFm S S') (k : cRw l h S u) : cRw l h S' u := by
  unfold cRw
  rw [f.2.1 93 (by omega), f.2.1 98 (by omega), f.2.1 99 (by omega)]; exact k
section CPE
variable {F : Int → Prop} {S : nk_S} {Q : Nat} {p : jP} {H lc : Nat → Nat} {us : List Int} {fl : List (List Int × Nat × Int)} {bl : List jB} {z : jL} {t : Nat → Int} {u : jQ} {i : Nat} {x : jC} {G : jZ} {σ : jG} {C : jH} {l h : Nat} {th : Nat → Int} {n : Nat}
theorem cI_e {x : Int} {s t : Nat → Bool} (h : cI x s) (e : ∀ j, s j = t j) : cI x t := ⟨h.1, fun j hj => by rw [h.2 j hj, e j]⟩
/-- an error is noted, maybe once more -/
theorem c_raiseN {r s : Nat → Bool} {b : Bool} {e : Nat} (he : e < 6) (k : cRs S (nlR b e r) (nlR b (48 + e) s)) : ∃ S', ja_X4_raise 92 (e : Int) S = some (0, S') ∧ rFm S S' ∧ (∀ a, a ≠ 92 → S'.1 a = S.1 a) ∧ cRs S' (nlR true e r) (nlR true (48 + e) s) := by
  have hid : ∀ (q : Nat → Bool) (m j : Nat), sOr (nlR b m q) (onS m) j = nlR true m q j := by
    intro q m j
    unfold nlR
    rw [if_pos rfl]
    cases b with
    | false => rw [if_neg (by decide)]
    | true =>
      rw [if_pos rfl]
      show ((q j || onS m j) || onS m j) = (q j || onS m j)
      rw [Bool.or_assoc, Bool.or_self]
  refine ⟨nk_wi (nk_wi S 92 9 (nk_ior (S.1 92 9) (nk_ishl 1 (e : Int)))) 92 10 (nk_lor (S.1 92 10) (nk_lshl 1 ((48 + e : Nat) : Int))), ?_, ⟨rfl, fun a x => by rw [wi_n (by omega), wi_n (by omega)], fun f x y => by rw [wi_at, if_neg y, wi_at, if_neg x]⟩, fun a x => by rw [wi_n x, wi_n x], ?_, ?_⟩
  · unfold ja_X4_raise
    have e10 : (nk_wi S 92 9 (nk_ior (S.1 92 9) (nk_ishl 1 (e : Int)))).1 92 10 = S.1 92 10 := by rw [wi_at, if_neg (by decide)]
    have ew : nk_w (48 + (e : Int)) = ((48 + e : Nat) : Int) := by
      rw [nk_w_id (by omega) (by omega)]; omega
    rw [lt_eq, lt_eq, e10, ew]
  · rw [wi_at, if_neg (by decide), wi_at, if_pos rfl]
    exact cI_e (cI_or k.1 (cI_on (by omega))) (hid r e)
  · rw [wi_at, if_pos rfl]
    exact cV_e (cV_or k.2 (cV_one (by omega))) (fun j _ => hid s (48 + e) j)
/-- what a value leaves in an array -/
theorem c_held {q : jW} (ho : wOk F q) (h2 : q.1 = 2) {v y : Int} {B : Nat → Bool} (hv : cV v q.2.2.1) (hy : cV y B) : cV (nk_land v (nk_lor y 4611686018427387904)) (sAnd q.2.2.1 (sOr B (onS 62))) ∧ (nk_land v (nk_lor y 4611686018427387904) = v ↔ sEx (sMi q.2.2.1 (sOr B (onS 62))) = false) ∧ (nk_land v (nk_lor y 4611686018427387904) = 0 ↔ sEx (sAnd q.2.2.1 (sOr B (onS 62))) = false) := by
  have w63 := w_63 ho h2
  have hK : cV (nk_land v (nk_lor y 4611686018427387904)) (sAnd q.2.2.1 (sOr B (onS 62))) := cV_and hv (cV_or hy ⟨by unfold lR; decide, lk_62⟩)
  refine ⟨hK, ?_, cV_ex hK (fun j hj => w63 j (sAnd_l _ _ j hj))⟩
  constructor
  · intro e
    refine nf_t fun e' => ?_
    obtain ⟨j, j1, j2⟩ := sEx_iff.mp e'
    have e1 := hK.2 j (by omega)
    rw [e, hv.2 j (by omega)] at e1
    have j2 : (q.2.2.1 j && !(sOr B (onS 62) j)) = true := j2
    have e1 : q.2.2.1 j = (q.2.2.1 j && sOr B (onS 62) j) := e1
    rw [Bool.and_eq_true] at j2
    have a2 : sOr B (onS 62) j = false := by
      cases q2 : sOr B (onS 62) j with
      | false => rfl
      | true => rw [q2] at j2; exact absurd j2.2 (by decide)
    rw [j2.1, a2] at e1
    cases e1
  · intro e
    refine cV_u hK (cV_e hv (fun j hj => ?_))
    show q.2.2.1 j = (q.2.2.1 j && sOr B (onS 62) j)
    cases a1 : q.2.2.1 j with
    | false => rfl
    | true =>
      cases a2 : sOr B (onS 62) j with
      | true => rfl
      | false =>
        exfalso
        have : sEx (sMi q.2.2.1 (sOr B (onS 62))) = true := sEx_iff.mpr ⟨j, w63 j a1, by show (q.2.2.1 j && !(sOr B (onS 62) j)) = true; rw [a1, a2]; rfl⟩
        rw [this] at e; cases e
theorem exB_s (f : Nat → Bool) (s : Nat) : exB f (s + 1) = (exB f s || f s) := rfl
theorem c_peL (hQ : Q = 13 ∨ Q = 49) (hT : thG F (zDn G) (zUp G)) (hF : thN F th n) (hv0 : cPv S Q p H lc) (hz48 : z.2.1.length ≤ 48) (hfl : fl.length ≤ 48) (hzp : z = p.2.2.2.2.1) (hfx : cFx S us z) {w : Nat → Bool} {v : Int} (hx : cV v w) {q : jW} (hqo : wOk F q) (hqk : q.1 = 1 ∨ q.1 = 2) {v4 f4 : Int} (hq : cSt v4 f4 q) (hpu : puS F us z q w) {r0 s0 : Nat → Bool} : ∀ (d s m : Nat) (T : nk_S) (C1 : jH), s + d = z.2.1.length → d < m → rFm S T → cRs T (nlR (peR us z w q s) 5 r0) (nlR (peR us z w q s) 53 s0) → gOk F us fl bl z (peG us z w q σ s) → cGm T fl bl z (peG us z w q σ s) C1 → gCg th n σ (peG us z w q σ s) C C1 → ∃ S' C', ja_X4_putsElement_L57 m 92 v v4 (bi (decide (q.1 = 1))) (bi (peS us z w q s)) (s : Int) T = (nk_bd (ja_X7_drop 93 3 S') fun _ S4 => some (bi (peS us z w q z.2.1.length), S4)) ∧ rFm S S' ∧ cRs S' (nlR (peR us z w q z.2.1.length) 5 r0) (nlR (peR us z w q z.2.1.length) 53 s0) ∧ cGm S' fl bl z (peG us z w q σ z.2.1.length) C' ∧ gCg th n σ (peG us z w q σ z.2.1.length) C C' := by
  intro d
  induction d with
  | zero =>
    intro s m T C1 h1 h2 hfT hk hg hm hcg
    obtain ⟨m, rfl⟩ : ∃ q, m = q + 1 := ⟨m - 1, by omega⟩
    have hv := cPv_k hQ (rFm_k hfT) hv0
    have hc : T.1 Q 10 = (z.2.1.length : Int) := by rw [hzp]; exact hv.2.2.1.2.2.2.2.2.2.2.2.1.2.1.1
    rw [Nat.add_zero] at h1
    rw [← h1]
    refine ⟨T, C1, ?_, hfT, hk, hm, hcg⟩
    show ja_X4_putsElement_b57 (ja_X4_putsElement_L57 m) 92 v v4 (bi (decide (q.1 = 1))) (bi (peS us z w q s)) (s : Int) T = _
    unfold ja_X4_putsElement_b57
    rw [hv.1, hc, if_pos (by omega), jc_92_2]
    congr 1
    funext _ S4
    rw [if_pos (bi_01 _)]
  | succ d ih =>
    intro s m T C1 h1 h2 hfT hk hg hm hcg
    obtain ⟨m, rfl⟩ : ∃ q, m = q + 1 := ⟨m - 1, by omega⟩
    have hv := cPv_k hQ (rFm_k hfT) hv0
    have hc : T.1 Q 10 = (z.2.1.length : Int) := by rw [hzp]; exact hv.2.2.1.2.2.2.2.2.2.2.2.1.2.1.1
    have e0 : ja_X4_putsElement_L57 (m + 1) 92 v v4 (bi (decide (q.1 = 1))) (bi (peS us z w q s)) (s : Int) T = ja_X4_putsElement_b57 (ja_X4_putsElement_L57 m) 92 v v4 (bi (decide (q.1 = 1))) (bi (peS us z w q s)) (s : Int) T := rfl
    rw [e0]
    unfold ja_X4_putsElement_b57
    have hb := c_bitAt hx (show s < 64 by omega)
    have eG : peG us z w q σ (s + 1) = if w s = true then (match pHl us z s q with
      | none => peG us z w q σ s
      | some q' => gAd (peG us z w q σ s) (2592 + s) q') else peG us z w q σ s := rfl
    rw [hv.1, hc, if_neg (by omega), w_nat1 (by omega)]
    cases hw : w s with
    | false =>
      rw [hw, if_neg (by decide)] at eG
      have eR : peR us z w q (s + 1) = peR us z w q s := by
        unfold peR
        rw [exB_s, hw, Bool.false_and, Bool.or_false]
      have eS : peS us z w q (s + 1) = peS us z w q s := by
        unfold peS
        rw [exB_s, hw, Bool.false_and, Bool.or_false]
      rw [if_pos (hb.mpr hw), lt_eq, ← eS]
      exact ih (s + 1) m T C1 (by omega) (by omega) hfT (by rw [eR]; exact hk) (by rw [eG]; exact hg) (by rw [eG]; exact hm) (by rw [eG]; exact hcg)
    | true =>
      rw [hw, if_pos rfl] at eG
      obtain ⟨p1, p2, p3, p4, p5⟩ := hpu s (by omega) hw
      have hzt := zT_e (fl := fl) (bl := bl) (z := z) (show s < 54 by omega)
      have hk48 : s < 48 := by omega
      have hd : decide (tEl (sTp z s) = 1) = decide (q.1 = 1) := decide_eq_decide.mpr p3
      -- what is put in
      have hadd : ∀ (T' : nk_S) (hl : Int), rFm S T' → cGm T' fl bl z (peG us z w q σ s) C1 → (match pHl us z s q with
          | none => hl = 0 ∧ q.1 ≠ 1
          | some q' => cVl (tEl (sTp z s)) hl (some q')) → ∃ T1 C2, ja_X8_addElement 100 (s : Int) hl (bi (decide (q.1 = 1))) T' = some (0, T1) ∧ sFr T' T1 ∧ gOk F us fl bl z (peG us z w q σ (s + 1)) ∧ cGm T1 fl bl z (peG us z w q σ (s + 1)) C2 ∧ gCg th n σ (peG us z w q σ (s + 1)) C C2 := by
        intro T' hl hT' hm' hh
        rw [eG]
        cases hp : pHl us z s q with
        | none =>
          rw [hp] at hh
          have hz0 : cV (T'.1 102 s) (vS ((peG us z w q σ s).1 (2592 + s))) := by
            have := hm'.2.1 s p1
            unfold cVl at this
            rw [if_neg (fun e => hh.2 (p3.mp e))] at this
            exact this
          have hor : nk_lor (T'.1 102 s) 0 = T'.1 102 s := cV_u (cV_e (cV_or hz0 cV_0) (fun j _ => by show (_ || false) = _; rw [Bool.or_false])) hz0
          refine ⟨T', C1, ?_, sFr_rfl, hg, hm', hcg⟩
          unfold ja_X8_addElement ja_X8_join
          rw [if_pos (in_i (N := 48) (by omega)), decide_eq_false hh.2, if_pos (show bi false = 0 from rfl), hh.1, jc_100_1, Int.toNat_natCast, hor, bd_some, if_pos rfl]
        | some q' =>
          rw [hp] at hh
          obtain ⟨T1, C2, a1, a2, a3, a4⟩ := c_addE (th := th) (n := n) hT hF hfl hz48 hg hm' p1 p2 (p5 q' hp) hh
          rw [hd] at a1
          exact ⟨T1, C2, a1, a2, gOk_ad hg (by omega) (by rw [hzt]; exact p5 q' hp) (by rw [hzt]; exact p2), a3, gCg_trans hcg a4⟩
      have h136 : ∀ (T' : nk_S) (hl : Int) (b : Bool), b = peS us z w q (s + 1) → rFm S T' → cGm T' fl bl z (peG us z w q σ s) C1 → cRs T' (nlR (peR us z w q (s + 1)) 5 r0) (nlR (peR us z w q (s + 1)) 53 s0) → (match pHl us z s q with
          | none => hl = 0 ∧ q.1 ≠ 1
          | some q' => cVl (tEl (sTp z s)) hl (some q')) → ∃ S' C', ja_X4_putsElement_b136 (ja_X4_putsElement_L57 m) 92 v v4 (bi (decide (q.1 = 1))) (s : Int) hl (bi b) T' = (nk_bd (ja_X7_drop 93 3 S') fun _ S4 => some (bi (peS us z w q z.2.1.length), S4)) ∧ rFm S S' ∧ cRs S' (nlR (peR us z w q z.2.1.length) 5 r0) (nlR (peR us z w q z.2.1.length) 53 s0) ∧ cGm S' fl bl z (peG us z w q σ z.2.1.length) C' ∧ gCg th n σ (peG us z w q σ z.2.1.length) C C' := by
        intro T' hl b hbS hT' hm' hk' hh
        obtain ⟨T1, C2, a1, a2, a3, a4, a5⟩ := hadd T' hl hT' hm' hh
        unfold ja_X4_putsElement_b136
        rw [jc_92_3, a1, bd_some, w_nat1 (by omega), lt_eq, hbS]
        exact ih (s + 1) m T1 C2 (by omega) (by omega) (rFm_trans hT' (rFm_s a2)) (cRs_s a2 hk') a3 a4 a5
      rw [if_neg (fun q => by rw [hb.mp q] at hw; cases hw)]
      rcases hqk with hq1 | hq2
      · -- a number
        have eR : peR us z w q (s + 1) = peR us z w q s := by
          unfold peR
          rw [decide_eq_false (show ¬ q.1 ≠ 1 from fun h => h hq1), Bool.false_and, Bool.false_and]
        have eS : ∀ s, peS us z w q s = true := fun s => by
          unfold peS
          rw [decide_eq_true hq1, Bool.true_or]
        have hp : pHl us z s q = some (wBr q) := by unfold pHl; rw [if_pos hq1]
        have go := h136 T v4 true (eS (s + 1)).symm hfT hm (by rw [eR]; exact hk) (by rw [hp]; exact cVl_br (F := F) (us := us) (z := z) p2 (p5 _ hp) hq)
        rw [eS s]
        rw [decide_eq_true hq1] at go ⊢
        rw [if_neg (show ¬ bi true = 0 by decide)]
        unfold ja_X4_putsElement_b104 ja_X4_putsElement_b119 ja_X4_putsElement_b131
        rw [if_pos rfl, if_neg (show ¬ bi true = 0 by decide)]
        exact go
      · -- a reference
        have hn1 : ¬ q.1 = 1 := by omega
        have hld : cV (T.1 111 s) (pB us z (tEl (sTp z s))) := by rw [hfT.2.1 111 (by omega)]; exact hfx.2.2 s p1 p4
        obtain ⟨y1, y2, y3⟩ := c_held hqo hq2 (hq.2.2.2 hq2) hld
        obtain ⟨hl, hhl⟩ : ∃ hl, hl = nk_land v4 (nk_lor (T.1 111 s) 4611686018427387904) := ⟨_, rfl⟩
        rw [← hhl] at y1 y2 y3
        have ep : pHl us z s q = if sEx (sAnd q.2.2.1 (sOr (pB us z (tEl (sTp z s))) (onS 62))) = true then some (wS (sAnd q.2.2.1 (sOr (pB us z (tEl (sTp z s))) (onS 62)))) else none := by unfold pHl; rw [if_neg hn1]
        have hval : (match pHl us z s q with
          | none => hl = 0 ∧ q.1 ≠ 1
          | some q' => cVl (tEl (sTp z s)) hl (some q')) := by
          rw [ep]
          by_cases c : sEx (sAnd q.2.2.1 (sOr (pB us z (tEl (sTp z s))) (onS 62))) = true
          · rw [if_pos c]
            have h2 : 2 ≤ tEl (sTp z s) := p2.resolve_left (fun e => hn1 (p3.mp e))
            exact (cVl_r h2).mpr y1
          · rw [if_neg c]
            exact ⟨y3.mpr (nf_t c), hn1⟩
        have eS : peS us z w q (s + 1) = (peS us z w q s || sEx (sAnd q.2.2.1 (sOr (pB us z (tEl (sTp z s))) (onS 62)))) := by
          unfold peS
          rw [exB_s, hw, Bool.true_and, ep, Bool.or_assoc]
          congr 2
          by_cases c : sEx (sAnd q.2.2.1 (sOr (pB us z (tEl (sTp z s))) (onS 62))) = true
          · rw [if_pos c, c]; rfl
          · rw [if_neg c, nf_t c]; rfl
        have eR : peR us z w q (s + 1) = (peR us z w q s || sEx (sMi q.2.2.1 (sOr (pB us z (tEl (sTp z s))) (onS 62)))) := by
          unfold peR
          rw [exB_s, hw, Bool.true_and, decide_eq_true (show q.1 ≠ 1 from hn1), Bool.true_and, Bool.true_and]
        have h119 : ∀ T', rFm S T' → cGm T' fl bl z (peG us z w q σ s) C1 → cRs T' (nlR (peR us z w q (s + 1)) 5 r0) (nlR (peR us z w q (s + 1)) 53 s0) → ∃ S' C', ja_X4_putsElement_b119 (ja_X4_putsElement_L57 m) 92 v v4 (bi (decide (q.1 = 1))) (bi (peS us z w q s)) (s : Int) hl T' = (nk_bd (ja_X7_drop 93 3 S') fun _ S4 => some (bi (peS us z w q z.2.1.length), S4)) ∧ rFm S S' ∧ cRs S' (nlR (peR us z w q z.2.1.length) 5 r0) (nlR (peR us z w q z.2.1.length) 53 s0) ∧ cGm S' fl bl z (peG us z w q σ z.2.1.length) C' ∧ gCg th n σ (peG us z w q σ z.2.1.length) C C' := by
          intro T' hT' hm' hk'
          unfold ja_X4_putsElement_b119 ja_X4_putsElement_b131
          cases hps : peS us z w q s with
          | true =>
            rw [if_neg (show ¬ bi true = 0 by decide)]
            exact h136 T' hl true (by rw [eS, hps, Bool.true_or]) hT' hm' hk' hval
          | false =>
            rw [if_pos (show bi false = 0 from rfl)]
            by_cases c : sEx (sAnd q.2.2.1 (sOr (pB us z (tEl (sTp z s))) (onS 62))) = true
            · rw [if_neg (fun e => by rw [y3.mp e] at c; cases c)]
              exact h136 T' hl true (by rw [eS, c, Bool.or_true]) hT' hm' hk' hval
            · rw [if_pos (y3.mpr (nf_t c))]
              exact h136 T' hl false (by rw [eS, hps, nf_t c]; rfl) hT' hm' hk' hval
        rw [decide_eq_false hn1] at h119 ⊢
        rw [if_pos (show bi false = 0 from rfl), if_pos (in_i (N := 48) (by omega))]
        unfold ja_X4_putsElement_b104
        rw [show ja_c 92 8 = 111 from jc_92_8, Int.toNat_natCast, ← hhl]
        by_cases c : sEx (sMi q.2.2.1 (sOr (pB us z (tEl (sTp z s))) (onS 62))) = true
        · rw [if_neg (fun e => by rw [y2.mp e] at c; cases c)]
          obtain ⟨T1, t1, t2, t3, t4⟩ := c_raiseN (e := 5) (by decide) hk
          have t1' : ja_X4_raise 92 5 T = some (0, T1) := t1
          rw [t1', bd_some]
          have et : peR us z w q (s + 1) = true := by rw [eR, c, Bool.or_true]
          refine h119 T1 (rFm_trans hfT t2) ?_ (by rw [et]; exact t4)
          unfold cGm at hm ⊢
          rw [t3 100 (by decide), t3 101 (by decide), t3 102 (by decide), t3 103 (by decide), t3 104 (by decide), t3 105 (by decide), t3 106 (by decide)]
          exact hm
        · rw [if_pos (y2.mpr (nf_t c))]
          exact h119 T hfT hm (by rw [eR, nf_t c, Bool.or_false]; exact hk)
end CPE
