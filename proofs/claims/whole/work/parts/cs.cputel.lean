/-! The class puts elements. -/
/-- the table when a value is put into arrays of sites -/
def peG (us : List Int) (z : jL) (w : Nat → Bool) (q : jW) (σ : jG) : Nat → jG
  | 0 => σ
  | s + 1 => if w s = true then (match pHl us z s q with
    | none => peG us z w q σ s
    | some q' => gAd (peG us z w q σ s) (2592 + s) q') else peG us z w q σ s
/-- sites of arrays that a value can be put into -/
def puS (F : Int → Prop) (us : List Int) (z : jL) (q : jW) (w : Nat → Bool) : Prop := ∀ s, s < 54 → w s = true → s < z.2.1.length ∧ (tEl (sTp z s) = 1 ∨ 2 ≤ tEl (sTp z s)) ∧ (tEl (sTp z s) = 1 ↔ q.1 = 1) ∧ tAr (sTp z s) = true ∧ ∀ q', pHl us z s q = some q' → vl1 F us z (tEl (sTp z s)) q'
/-- a value that does not suit all sites -/
def peR (us : List Int) (z : jL) (w : Nat → Bool) (q : jW) (s : Nat) : Bool := decide (q.1 ≠ 1) && exB (fun s => w s && sEx (sMi q.2.2.1 (sOr (pB us z (tEl (sTp z s))) (onS 62)))) s
def peS (us : List Int) (z : jL) (w : Nat → Bool) (q : jW) (s : Nat) : Bool := decide (q.1 = 1) || exB (fun s => w s && (pHl us z s q).isSome) s
/-- rows and errors aside, only the table changes -/
def rFm (S T : nk_S) : Prop := T.2 = S.2 ∧ (∀ a, a < 92 ∨ (93 ≤ a ∧ a ≤ 99) ∨ 107 ≤ a → T.1 a = S.1 a) ∧ ∀ f, f ≠ 9 → f ≠ 10 → T.1 92 f = S.1 92 f
theorem rFm_rfl {S : nk_S} : rFm S S := ⟨rfl, fun _ _ => rfl, fun _ _ _ => rfl⟩
theorem rFm_trans {S1 S2 S3 : nk_S} (h : rFm S1 S2) (k : rFm S2 S3) : rFm S1 S3 := ⟨k.1.trans h.1, fun a x => (k.2.1 a x).trans (h.2.1 a x), fun f x y => (k.2.2 f x y).trans (h.2.2 f x y)⟩
theorem rFm_s {S S' : nk_S} (h : sFr S S') : rFm S S' := ⟨h.1, fun a x => h.2 a (by omega), fun f _ _ => by rw [h.2 92 (by omega)]⟩
theorem rFm_k {S S' : nk_S} (h : rFm S S') : kFr S S' := ⟨h.1, fun a x => h.2.1 a (by omega), h.2.2⟩
theorem cRw_r {l h : Nat} {S S' : nk_S} {u : jQ} (f : rFm S S') (k : cRw l h S u) : cRw l h S' u := by
  unfold cRw
  rw [f.2.1 93 (by omega), f.2.1 98 (by omega), f.2.1 99 (by omega)]; exact k
section CPE
variable {F : Int → Prop} {S : nk_S} {Q : Nat} {p : jP} {H lc : Nat → Nat} {us : List Int} {fl : List (List Int × Nat × Int)} {bl : List jB} {z : jL} {t : Nat → Int} {u : jQ} {i : Nat} {x : jC} {G : jZ} {σ : jG} {C : jH} {l h : Nat} {th : Nat → Int} {n : Nat}
theorem cI_e {x : Int} {s t : Nat → Bool} (h : cI x s) (e : ∀ j, s j = t j) : cI x t := ⟨h.1, fun j hj => by rw [h.2 j hj, e j]⟩
/-- an error is noted, maybe once more -/
theorem c_raiseN {r s : Nat → Bool} {b : Bool} {e : Nat} (he : e < 6) (k : cRs S (nlR b e r) (nlR b (48 + e) s)) : ∃ S', ja_X4_raise 92 (e : Int) S = some (0, S') ∧ rFm S S' ∧ (∀ a, a ≠ 92 → S'.1 a = S.1 a) ∧ cRs S' (nlR true e r) (nlR true (48 + e) s) := by
  have hid : ∀ (q : Nat → Bool) (m j : Nat), sOr (nlR b m q) (onS m) j = nlR true m q j := by
    intro q m j
    unfold nlR
    rw [if_pos rfl]
    cases b with
    | false => rw [if_neg (by decide)]
    | true =>
      rw [if_pos rfl]
      show ((q j || onS m j) || onS m j) = (q j || onS m j)
      rw [Bool.or_assoc, Bool.or_self]
  refine ⟨nk_wi (nk_wi S 92 9 (nk_ior (S.1 92 9) (nk_ishl 1 (e : Int)))) 92 10 (nk_lor (S.1 92 10) (nk_lshl 1 ((48 + e : Nat) : Int))), ?_, ⟨rfl, fun a x => by rw [wi_n (by omega), wi_n (by omega)], fun f x y => by rw [wi_at, if_neg y, wi_at, if_neg x]⟩, fun a x => by rw [wi_n x, wi_n x], ?_, ?_⟩
  · unfold ja_X4_raise
    have e10 : (nk_wi S 92 9 (nk_ior (S.1 92 9) (nk_ishl 1 (e : Int)))).1 92 10 = S.1 92 10 := by rw [wi_at, if_neg (by decide)]
    have ew : nk_w (48 + (e : Int)) = ((48 + e : Nat) : Int) := by
      rw [nk_w_id (by omega) (by omega)]; omega
    rw [lt_eq, lt_eq, e10, ew]
  · rw [wi_at, if_neg (by decide), wi_at, if_pos rfl]
    exact cI_e (cI_or k.1 (cI_on (by omega))) (hid r e)
  · rw [wi_at, if_pos rfl]
    exact cV_e (cV_or k.2 (cV_one (by omega))) (fun j _ => hid s (48 + e) j)
/-- what a value leaves in an array -/
theorem c_held {q : jW} (ho : wOk F q) (h2 : q.1 = 2) {v y : Int} {B : Nat → Bool} (hv : cV v q.2.2.1) (hy : cV y B) : cV (nk_land v (nk_lor y 4611686018427387904)) (sAnd q.2.2.1 (sOr B (onS 62))) ∧ (nk_land v (nk_lor y 4611686018427387904) = v ↔ sEx (sMi q.2.2.1 (sOr B (onS 62))) = false) ∧ (nk_land v (nk_lor y 4611686018427387904) = 0 ↔ sEx (sAnd q.2.2.1 (sOr B (onS 62))) = false) := by
  have w63 := w_63 ho h2
  have hK : cV (nk_land v (nk_lor y 4611686018427387904)) (sAnd q.2.2.1 (sOr B (onS 62))) := cV_and hv (cV_or hy ⟨by unfold lR; decide, lk_62⟩)
  refine ⟨hK, ?_, cV_ex hK (fun j hj => w63 j (sAnd_l _ _ j hj))⟩
  constructor
  · intro e
    refine nf_t fun e' => ?_
    obtain ⟨j, j1, j2⟩ := sEx_iff.mp e'
    have e1 := hK.2 j (by omega)
    rw [e, hv.2 j (by omega)] at e1
    have j2 : (q.2.2.1 j && !(sOr B (onS 62) j)) = true := j2
    have e1 : q.2.2.1 j = (q.2.2.1 j && sOr B (onS 62) j) := e1
    rw [Bool.and_eq_true] at j2
    have a2 : sOr B (onS 62) j = false := by
      cases q2 : sOr B (onS 62) j with
      | false => rfl
      | true => rw [q2] at j2; exact absurd j2.2 (by decide)
    rw [j2.1, a2] at e1
    cases e1
  · intro e
    refine cV_u hK (cV_e hv (fun j hj => ?_))
    show q.2.2.1 j = (q.2.2.1 j && sOr B (onS 62) j)
    cases a1 : q.2.2.1 j with
    | false => rfl
    | true =>
      cases a2 : sOr B (onS 62) j with
      | true => rfl
      | false =>
        exfalso
        have : sEx (sMi q.2.2.1 (sOr B (onS 62))) = true := sEx_iff.mpr ⟨j, w63 j a1, by show (q.2.2.1 j && !(sOr B (onS 62) j)) = true; rw [a1, a2]; rfl⟩
        rw [this] at e; cases e
end CPE
