/-! The proof: arrays that are known have lengths. -/
def wI (P : Nat → Prop) (w : jW) : Prop := ∀ s, w.2.2.1 s = true → P s
def qI (P : Nat → Prop) (u : jQ) : Prop := ∀ k, wI P (u k)
section PSI
variable {P : Nat → Prop} {dn up : Int → Int} {G : jZ} {σ : jG}
theorem wI_R (r : jR) : wI P (wR r) := fun s h => by cases h
theorem wI_U : wI P wU := fun s h => by cases h
theorem wI_S {a : Nat → Bool} (h : ∀ s, a s = true → P s) : wI P (wS a) := fun s q => h s q
theorem wI_on {k : Nat} (h : P k) : wI P (wS (onS k)) := fun s q => by rw [onS_eq q]; exact h
theorem wI_and {w : jW} (h : wI P w) (K : Nat → Bool) : ∀ s, sAnd w.2.2.1 K s = true → P s := fun s q => by
  unfold sAnd at q
  rw [Bool.and_eq_true] at q
  exact h s q.1
theorem wI_st {w : jW} (h : wI P w) (K : Nat → Bool) : wI P (wSt w (sAnd w.2.2.1 K)) := fun s q => wI_and h K s q
theorem wI_J {a c : jW} (ha : wI P a) (hc : wI P c) : wI P (wJn a c) := by
  intro s q
  unfold wJn at q
  split at q
  · have q : (a.2.2.1 s || c.2.2.1 s) = true := q
    rw [Bool.or_eq_true] at q
    rcases q with q | q
    · exact ha s q
    · exact hc s q
  · cases q
theorem wI_nl (h62 : P 62) (t : Int) : wI P (wNl t) := by
  unfold wNl
  split
  · exact wI_R _
  · exact wI_on h62
theorem qI_up {u : jQ} (h : qI P u) {k : Nat} {w : jW} (hw : wI P w) : qI P (qUp u k w) := by
  intro j
  by_cases e : j = k
  · rw [e, qUp_at]; exact hw
  · rw [qUp_ne e]; exact h j
theorem qI_rs {u : jQ} (h : qI P u) (l g : Nat) : qI P (qRs l g u) := by
  intro j
  unfold qRs
  split
  · exact h j
  · exact wI_U
theorem qI_ch {u : jQ} (h : qI P u) (a : Nat) : qI P (qCh u a) := fun k s q => h k s q
theorem qI_kp {u v : jQ} (h : qI P u) {s : Nat} {K : Nat → Bool} (hv : qKp u s K = some v) : qI P v := by
  unfold qKp at hv
  split at hv
  · cases hv; exact h
  · split at hv
    · cases hv
      exact qI_up h (wI_st (h _) K)
    · cases hv
theorem qI_nr {u v : jQ} (h : qI P u) {s : Nat} {r : jR} {f : Nat → Bool} (hv : qNr u s r f = some v) : qI P v := by
  unfold qNr at hv
  split at hv
  · cases hv; exact h
  · rename_i k _
    split at hv
    · cases hv
    · cases hv
      exact qI_up h (fun s q => h k s q)
theorem qI_dr {u v : jQ} (h : qI P u) {r : Nat} (hv : pDr u r = some v) : qI P v := by
  unfold pDr at hv
  split at hv
  · exact qI_kp h hv
  · cases hv
theorem qI_ix {u v : jQ} (h : qI P u) {r x : Nat} (hv : pIx dn up σ u r x = some v) : qI P v := by
  unfold pIx at hv
  split at hv
  · cases hv
  · split at hv
    · cases hv
    · exact qI_nr h hv
theorem fJ_I {f : Nat → Option jW} {s : Nat → Bool} (h : ∀ m w, f m = some w → wI P w) : ∀ n w, fJ f s n = some w → wI P w := by
  intro n
  induction n with
  | zero => intro w q; cases q
  | succ n ih =>
    intro w q
    have q : oJ (fJ f s n) (if s n = true then f n else none) = some w := q
    have hb : ∀ v, (if s n = true then f n else none) = some v → wI P v := by
      intro v hv
      split at hv
      · exact h n v hv
      · cases hv
    revert q hb
    generalize (if s n = true then f n else none) = o
    cases hf : fJ f s n with
    | none => intro q hb; exact hb w q
    | some a =>
      cases o with
      | none => intro q hb; cases q; exact ih _ hf
      | some c => intro q hb; cases q; exact wI_J (ih _ hf) (hb c rfl)
/-- of the table -/
def tI (P : Nat → Prop) (σ : jG) : Prop := (∀ k w, σ.1 k = some w → wI P w) ∧ ∀ b s, σ.2.2 b s = true → P s
theorem pRt_I (hσ : tI P σ) {m : Nat → Bool} {w : jW} (h : pRt σ m = some w) : wI P w := by
  unfold pRt at h
  refine fJ_I (fun b v q => ?_) 48 w h
  split at q
  · exact hσ.1 _ _ q
  · cases q
theorem pGo_I (h62 : P 62) (hσ : tI P σ) {x : jC} {h : Nat} {u v : jQ} (hu : qI P u) (hn : x.1 = 30 ∨ x.1 = 31 → P x.2.2.1.toNat) (hv : pGo G σ x h u = some v) : qI P v := by
  unfold pGo at hv
  by_cases c : x.1 = 0
  · rw [if_pos c] at hv; cases hv; exact qI_up hu (wI_R _)
  rw [if_neg c] at hv; clear c
  by_cases c : x.1 = 1
  · rw [if_pos c] at hv; cases hv; exact qI_up hu (wI_on h62)
  rw [if_neg c] at hv; clear c
  by_cases c : x.1 = 2
  · rw [if_pos c] at hv; cases hv; exact qI_up hu (fun s q => hu _ s q)
  rw [if_neg c] at hv; clear c
  by_cases c : x.1 = 3
  · rw [if_pos c] at hv; cases hv; exact qI_up (qI_ch hu _) (fun s q => hu _ s q)
  rw [if_neg c] at hv; clear c
  by_cases c : x.1 = 4
  · rw [if_pos c] at hv; cases hv; exact qI_up (qI_ch hu _) (wI_R _)
  rw [if_neg c] at hv; clear c
  by_cases c : x.1 = 5
  · rw [if_pos c] at hv; cases hv; exact qI_up hu (hu _)
  rw [if_neg c] at hv; clear c
  by_cases c : x.1 = 6 ∨ x.1 = 45 ∨ x.1 = 19
  · rw [if_pos c] at hv; cases hv; exact hu
  rw [if_neg c] at hv; clear c
  by_cases c : x.1 = 7
  · rw [if_pos c] at hv; cases hv; exact qI_up (qI_up hu (hu _)) (hu _)
  rw [if_neg c] at hv; clear c
  by_cases c : 8 ≤ x.1 ∧ x.1 ≤ 17
  · rw [if_pos c] at hv
    obtain ⟨r, r1, r2⟩ := oB_some hv
    cases r2; exact qI_up hu (wI_R _)
  rw [if_neg c] at hv; clear c
  by_cases c : x.1 = 18
  · rw [if_pos c] at hv; cases hv; exact qI_up hu (wI_R _)
  rw [if_neg c] at hv; clear c
  by_cases c : x.1 = 30
  · rw [if_pos c] at hv; cases hv; exact qI_up hu (wI_on (hn (Or.inl c)))
  rw [if_neg c] at hv; clear c
  by_cases c : x.1 = 31
  · rw [if_pos c] at hv
    split at hv
    · cases hv
    · cases hv; exact qI_up hu (fun s q => wI_on (hn (Or.inr c)) s q)
  rw [if_neg c] at hv; clear c
  by_cases c : x.1 = 32
  · rw [if_pos c] at hv
    obtain ⟨a, a1, a2⟩ := oB_some hv
    obtain ⟨l, l1, l2⟩ := oB_some a2
    cases l2; exact qI_up (qI_dr hu a1) (fun s q => by cases q)
  rw [if_neg c] at hv; clear c
  by_cases c : x.1 = 33
  · rw [if_pos c] at hv
    obtain ⟨a, a1, a2⟩ := oB_some hv
    obtain ⟨b, b1, b2⟩ := oB_some a2
    obtain ⟨l, l1, l2⟩ := oB_some b2
    cases l2
    exact qI_up (qI_ix (qI_dr hu a1) b1) (fJ_I (fun m w q => hσ.1 _ w q) 54 l l1)
  rw [if_neg c] at hv; clear c
  by_cases c : x.1 = 34
  · rw [if_pos c] at hv
    obtain ⟨a, a1, a2⟩ := oB_some hv
    obtain ⟨b, b1, b2⟩ := oB_some a2
    split at b2
    · cases b2; exact qI_ix (qI_dr hu a1) b1
    · cases b2
  rw [if_neg c] at hv; clear c
  by_cases c : x.1 = 35
  · rw [if_pos c] at hv
    obtain ⟨a, a1, a2⟩ := oB_some hv
    obtain ⟨l, l1, l2⟩ := oB_some a2
    cases l2
    exact qI_up (qI_dr hu a1) (fJ_I (fun m w q => hσ.1 _ w q) 54 l l1)
  rw [if_neg c] at hv; clear c
  by_cases c : x.1 = 36
  · rw [if_pos c] at hv; exact qI_dr hu hv
  rw [if_neg c] at hv; clear c
  by_cases c : x.1 = 37
  · rw [if_pos c] at hv
    split at hv
    · exact qI_kp (qI_up hu (wI_st (hu _) _)) hv
    · cases hv
  rw [if_neg c] at hv; clear c
  by_cases c : x.1 = 38
  · rw [if_pos c] at hv; cases hv; exact qI_up hu (wI_R _)
  rw [if_neg c] at hv; clear c
  by_cases c : x.1 = 39 ∨ x.1 = 40
  · rw [if_pos c] at hv
    obtain ⟨a, a1, a2⟩ := oB_some hv
    have ha : qI P a := by
      split at a1
      · exact qI_dr hu a1
      · cases a1; exact hu
    split at a2
    · split at a2
      · cases a2; exact ha
      · obtain ⟨l, l1, l2⟩ := oB_some a2
        cases l2
        exact qI_up ha (pRt_I hσ l1)
    · cases a2
  rw [if_neg c] at hv; clear c
  by_cases c : x.1 = 44
  · rw [if_pos c] at hv; cases hv; exact qI_up hu (wI_R _)
  rw [if_neg c] at hv; cases hv
theorem pOrd_I {u v : jQ} {a c : Nat} {ls : Bool} (h : qI P u) (hv : pOrd dn up u a c ls = some v) : qI P v := by
  unfold pOrd at hv
  split at hv
  · cases hv
    refine qI_up (qI_up h ?_) ?_
    · exact fun s q => h a s q
    · exact fun s q => h c s q
  · cases hv
theorem pEq_I {u v : jQ} {a c : Nat} (h : qI P u) (hv : pEq u a c = some v) : qI P v := by
  unfold pEq at hv
  split at hv
  · cases hv
    refine qI_up (qI_up h ?_) ?_
    · exact fun s q => h a s q
    · exact fun s q => h c s q
  · cases hv
theorem pNe_I {u v : jQ} {a c : Nat} (h : qI P u) (hv : pNe dn up u a c = some v) : qI P v := by
  unfold pNe at hv
  split at hv
  · cases hv
    refine qI_up (qI_up h ?_) ?_
    · exact fun s q => h a s q
    · exact fun s q => h c s q
  · cases hv
theorem pWy_I {rl g : Nat} {u v : jQ} (h : qI P u) (hv : pWy dn up rl u g = some v) : qI P v := by
  unfold pWy at hv
  by_cases c : rl ≤ 25
  · rw [if_pos c] at hv
    obtain ⟨a, a1, a2⟩ := oB_some hv
    obtain ⟨b, b1, b2⟩ := oB_some a2
    have ha : qI P a := by
      split at a1
      · exact pEq_I h a1
      split at a1
      · exact pNe_I h a1
      split at a1
      · exact pOrd_I h a1
      split at a1
      · exact pOrd_I h a1
      split at a1
      · exact pOrd_I h a1
      exact pOrd_I h a1
    exact qI_nr (qI_nr ha b1) b2
  rw [if_neg c] at hv
  by_cases c26 : rl = 26 ∨ rl = 27
  · rw [if_pos c26] at hv
    generalize (if rl = 26 then onS 62 else sAl) = K at hv
    split at hv
    · exact qI_kp h hv
    · cases hv
  rw [if_neg c26] at hv
  split at hv
  · split at hv
    · obtain ⟨a, a1, a2⟩ := oB_some hv
      exact qI_kp (qI_kp h a1) a2
    · cases hv
  · cases hv; exact h
theorem pLs_I (h48 : ∀ s, 48 ≤ s → s < 54 → P s) (hσ : tI P σ) {x : jC} {h : Nat} {u : jQ} (hu : qI P u) {s : Nat} (hl : pLs G σ x h u s = true) : P s := by
  unfold pLs at hl
  rw [Bool.or_eq_true] at hl
  rcases hl with q | q
  · unfold pTh at q
    split at q
    · exact wI_and (hu _) _ s q
    split at q
    · obtain ⟨b, b1, b2⟩ := (exB_iff 48).mp q
      rw [Bool.and_eq_true] at b2
      exact hσ.2 b s b2.2
    split at q
    · rw [Bool.and_eq_true] at q
      obtain ⟨b, b1, b2⟩ := (exB_iff 48).mp q.2
      rw [Bool.and_eq_true] at b2
      exact hσ.2 b s b2.2
    · cases q
  · rw [Bool.and_eq_true, Bool.and_eq_true] at q
    exact h48 s (of_decide_eq_true q.1.1) (of_decide_eq_true q.1.2)
theorem pEn_I {y : jB} {u : jQ} (hu : qI P u) (low : Nat) {o : Option Nat} (ho : ∀ s, o = some s → P s) : qI P (pEn y u low o) := by
  intro k
  unfold pEn
  split
  · cases o with
    | none => exact fun s q => hu _ s q
    | some s =>
      dsimp only
      split
      · exact wI_on (ho s rfl)
      · exact fun s q => hu _ s q
  · exact wI_U
theorem pEd_I (h62 : P 62) (h48 : ∀ s, 48 ≤ s → s < 54 → P s) (hσ : tI P σ) {i : Nat} {x : jC} {u : jQ} (hu : qI P u) (hn : x.1 = 30 ∨ x.1 = 31 → pGo G σ x (zH G i) u ≠ none → P x.2.2.1.toNat) {lc : Nat → Nat} {j : Nat} {w : jQ} (hE : pEd G σ i x u lc j w) : qI P w := by
  rcases hE with ⟨a1, v, a2, a3, a4⟩ | ⟨a1, a2, v, a3, a4⟩ | ⟨k, y, a1, a2, a3, a4, a5, a6, a7⟩ | ⟨a1, y, e', a2, a3, a4, a5⟩ | ⟨a1, a2, s, b, y, y', e', a3, a4, a5, a6, a7, a8, a9, a10⟩
  · rw [a4]
    exact qI_rs (pGo_I h62 hσ hu (fun q => hn q (by rw [a2]; exact fun r => by cases r)) a2) _ _
  · rw [a3]
    rcases a4 with ⟨f1, -⟩ | ⟨f1, -⟩
    · exact qI_rs (pWy_I hu f1) _ _
    · exact qI_rs (pWy_I hu f1) _ _
  · rw [a7]
    refine qI_rs (qI_up hu (wI_S (fun s q => ?_))) _ _
    unfold sAnd at q
    rw [Bool.and_eq_true] at q
    exact pLs_I h48 hσ hu (pLf_sub k s q.1)
  · rw [a5]
    exact qI_rs (pEn_I hu _ (fun s q => by cases q)) _ _
  · rw [a10]
    exact qI_rs (pEn_I hu _ (fun s' q => by cases q; exact hu _ s a4)) _ _
theorem pHl_I {us : List Int} {z : jL} {s : Nat} {w w' : jW} (h : wI P w) (hv : pHl us z s w = some w') : wI P w' := by
  unfold pHl at hv
  split at hv
  · cases hv; exact fun s q => h s q
  · split at hv
    · cases hv; exact wI_S (wI_and h _)
    · cases hv
theorem pCo_I (h62 : P 62) {x : jC} {h : Nat} {u : jQ} (hu : qI P u) {k : Nat} {w : jW} (hv : pCo G σ x h u k = some w) : wI P w := by
  unfold pCo at hv
  split at hv
  · split at hv
    · obtain ⟨y, y1, y2⟩ := oB_some hv
      split at y2
      · cases y2; exact wI_nl h62 _
      · cases y2
    · cases hv
  split at hv
  · split at hv
    · cases hv
    split at hv
    · cases hv; exact wI_R _
    split at hv
    · cases hv; exact wI_nl h62 _
    · cases hv
  split at hv
  · obtain ⟨a, a1, a2⟩ := oB_some hv
    obtain ⟨b, b1, b2⟩ := oB_some a2
    split at b2
    · exact pHl_I (hu _) b2
    · cases b2
  split at hv
  · obtain ⟨a, a1, a2⟩ := oB_some hv
    split at a2
    · cases a2; exact fun s q => hu _ s q
    · cases a2
  split at hv
  · split at hv
    · cases hv; exact fun s q => hu _ s q
    · cases hv
  · cases hv
end PSI
/-- an array has a length -/
def lnP (z : jL) (σ : jG) (s : Nat) : Prop := tAr (sTp z s) = true → s < 54 → σ.1 (2646 + s) ≠ none
def lnI (z : jL) (A : jA) (σ : jG) : Prop := (∀ i u, A i = some u → qI (lnP z σ) u) ∧ tI (lnP z σ) σ
theorem lnP_62 {z : jL} {σ : jG} : lnP z σ 62 := fun _ h => by omega
theorem lnP_48 {z : jL} {σ : jG} (hz : z.2.1.length ≤ 48) : ∀ s, 48 ≤ s → s < 54 → lnP z σ s := fun s h1 h2 h3 => by
  exfalso
  unfold sTp tAr at h3
  rw [if_neg (by omega), Bool.or_eq_true, Bool.and_eq_true] at h3
  rcases h3 with q | ⟨-, q⟩
  · have := of_decide_eq_true q; omega
  · have := of_decide_eq_true q; omega
theorem lnP_m {z : jL} {σ τ : jG} (h : gLe σ τ) {s : Nat} (k : lnP z σ s) : lnP z τ s := fun h1 h2 h3 => by
  cases hq : σ.1 (2646 + s) with
  | none => exact k h1 h2 hq
  | some w =>
    obtain ⟨t, t1, -⟩ := h.1 _ w hq
    rw [t1] at h3; cases h3
theorem qI_m {P R : Nat → Prop} (h : ∀ s, P s → R s) {u : jQ} (k : qI P u) : qI R u := fun j s q => h s (k j s q)
theorem lnI_A {z : jL} {A : jA} {σ τ : jG} (h : lnI z A σ) (hg : gLe σ τ) : ∀ i u, A i = some u → qI (lnP z τ) u := fun i u q => qI_m (fun _ => lnP_m hg) (h.1 i u q)
/-- one arrow more -/
theorem lnI_arr {z : jL} {A : jA} {σ : jG} (h : lnI z A σ) {j : Nat} {w : jQ} (hw : qI (lnP z σ) w) : lnI z (aArr A j w) σ := by
  refine ⟨fun i u q => ?_, h.2⟩
  by_cases e : i = j
  · rw [e, aArr_at] at q
    cases q
    cases hA : A j with
    | none => exact hw
    | some t => exact fun k => wI_J (h.1 j t hA k) (hw k)
  · rw [aArr_ne e] at q
    exact h.1 i u q
/-- one value more -/
theorem lnI_ad {z : jL} {A : jA} {σ : jG} (h : lnI z A σ) {k : Nat} {w : jW} (hw : wI (lnP z (gAd σ k w)) w) : lnI z A (gAd σ k w) := by
  have hg := (gAd_le σ k w).1
  refine ⟨lnI_A h hg, fun k' v q => ?_, fun b s q => lnP_m hg (h.2.2 b s q)⟩
  by_cases e : k' = k
  · rw [e, gAd_at] at q
    cases hq : σ.1 k with
    | none => rw [hq] at q; cases q; exact hw
    | some t =>
      rw [hq] at q; cases q
      exact wI_J (fun s r => lnP_m hg (h.2.1 k t hq s r)) hw
  · rw [gAd_ne e] at q
    exact fun s r => lnP_m hg (h.2.1 k' v q s r)
theorem gEn_le (σ : jG) (b : Nat) : gLe σ (gEn σ b) := ⟨fun k w h => ⟨w, h, wle_refl _⟩, fun b' h => (by
  unfold gEn; dsimp only
  split
  · rfl
  · exact h), fun _ => sLe_refl _⟩
theorem lnI_en {z : jL} {A : jA} {σ : jG} (h : lnI z A σ) (b : Nat) : lnI z A (gEn σ b) := h
theorem gTh_le (σ : jG) (b : Nat) (s : Nat → Bool) : gLe σ (gTh σ b s) := ⟨fun k w h => ⟨w, h, wle_refl _⟩, fun _ h => h, fun b' j h => by
  unfold gTh; dsimp only
  split
  · rename_i e
    unfold sOr
    rw [← e, h, Bool.true_or]
  · exact h⟩
theorem lnI_th {z : jL} {A : jA} {σ : jG} (h : lnI z A σ) {b : Nat} {s : Nat → Bool} (hs : ∀ j, s j = true → lnP z σ j) : lnI z A (gTh σ b s) := by
  refine ⟨h.1, h.2.1, fun b' j q => ?_⟩
  have q : (if b' = b then sOr (σ.2.2 b) s else σ.2.2 b') j = true := q
  split at q
  · unfold sOr at q
    rw [Bool.or_eq_true] at q
    rcases q with q | q
    · exact h.2.2 b j q
    · exact hs j q
  · exact h.2.2 b' j q
/-- what an array's slot means has lengths -/
theorem lnI_ln {z : jL} {σ : jG} {w : jW} (h : wI (lnP z σ) w) (ha : ∀ s, s < 54 → w.2.2.1 s = true → tAr (sTp z s) = true) (hn : ∃ s, s < 54 ∧ w.2.2.1 s = true) : pLn σ w.2.2.1 ≠ none := by
  obtain ⟨s, s1, s2⟩ := hn
  have hs := h s s2 (ha s s1 s2) s1
  unfold pLn
  have gen : ∀ n, s < n → fJ (fun k => σ.1 (2646 + k)) w.2.2.1 n ≠ none := by
    intro n
    induction n with
    | zero => intro q; omega
    | succ n ih =>
      intro q
      show oJ (fJ (fun k => σ.1 (2646 + k)) w.2.2.1 n) (if w.2.2.1 n = true then σ.1 (2646 + n) else none) ≠ none
      by_cases e : s = n
      · rw [← e, if_pos s2]
        cases hq : σ.1 (2646 + s) with
        | none => exact absurd hq hs
        | some t => cases fJ (fun k => σ.1 (2646 + k)) w.2.2.1 s <;> (intro r; cases r)
      · have := ih (by omega)
        cases hq : fJ (fun k => σ.1 (2646 + k)) w.2.2.1 n with
        | none => exact absurd hq this
        | some t => cases (if w.2.2.1 n = true then σ.1 (2646 + n) else none) <;> (intro r; cases r)
  exact gen 54 s1
