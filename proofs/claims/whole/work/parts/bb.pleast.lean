/-! The proof: the least solution. -/
abbrev jA : Type := Nat → Option jQ
def aOk (F : Int → Prop) (us : List Int) (z : jL) (H lc : Nat → Nat) (ty : Nat → Option (Nat → Int)) (A : jA) : Prop := ∀ i u, A i = some u → ∃ x t, z.1[i]? = some x ∧ ty i = some t ∧ rOw F us z (lc i) (H i) t u
def aLe (A B : jA) : Prop := ∀ i u, A i = some u → ∃ t, B i = some t ∧ qLe u t
/-- all that comes from an instruction is there -/
def pCl (G : jZ) (lc : Nat → Nat) (A : jA) (σ : jG) (i : Nat) : Prop := ∀ x u, (zZ G).1[i]? = some x → A i = some u → (∀ j w, pEd G σ i x u lc j w → ∃ t, A j = some t ∧ qLe w t) ∧ (∀ k, oLe (pCo G σ x (zH G i) u k) (σ.1 k)) ∧ (x.1 = 42 ∨ x.1 = 43 → σ.2.1 x.2.2.2.1 = true) ∧ sLe (pEs G σ i x (zH G i) u) (σ.2.2 x.2.2.2.1)
def pSl (F : Int → Prop) (G : jZ) (lc : Nat → Nat) (ty : Nat → Option (Nat → Int)) (m0 : Nat) (A : jA) (σ : jG) : Prop := aOk F (zUs G) (zZ G) (zH G) lc ty A ∧ gOk F (zUs G) (zFl G) (zBl G) (zZ G) σ ∧ (∃ u, A m0 = some u ∧ qLe (fun _ => wU) u) ∧ ∀ i, pCl G lc A σ i
def pIn (F : Int → Prop) (G : jZ) (lc : Nat → Nat) (ty : Nat → Option (Nat → Int)) (m0 : Nat) (A : jA) (σ : jG) : Prop := aOk F (zUs G) (zZ G) (zH G) lc ty A ∧ gOk F (zUs G) (zFl G) (zBl G) (zZ G) σ ∧ (∃ u, A m0 = some u ∧ qLe (fun _ => wU) u) ∧ ∀ B τ, pSl F G lc ty m0 B τ → aLe A B ∧ gLe σ τ
def aArr (A : jA) (j : Nat) (w : jQ) : jA := fun i => if i = j then some (match A j with
  | none => w
  | some u => fun k => wJn (u k) (w k)) else A i
def gAd (σ : jG) (k : Nat) (w : jW) : jG := (fun k' => if k' = k then oJ (σ.1 k) (some w) else σ.1 k', σ.2)
def gEn (σ : jG) (b : Nat) : jG := (σ.1, fun b' => if b' = b then true else σ.2.1 b', σ.2.2)
def gTh (σ : jG) (b : Nat) (s : Nat → Bool) : jG := (σ.1, σ.2.1, fun b' => if b' = b then sOr (σ.2.2 b) s else σ.2.2 b')
section PLE
variable {ns : List (List Int)} {us : List Int} {fl : List (List Int × Nat × Int)} {bl : List jB} {z : jL} {el : List (Nat × Nat × Nat × Nat)} {F : Int → Prop} {dn up : Int → Int} {H lc : Nat → Nat} {ty : Nat → Option (Nat → Int)} {m0 : Nat}
theorem aArr_at {A : jA} {j : Nat} {w : jQ} : aArr A j w j = some (match A j with
  | none => w
  | some u => fun k => wJn (u k) (w k)) := by unfold aArr; rw [if_pos rfl]
theorem aArr_ne {A : jA} {j i : Nat} {w : jQ} (h : i ≠ j) : aArr A j w i = A i := by unfold aArr; rw [if_neg h]
theorem gOk_kd {σ : jG} (h : gOk F us fl bl z σ) : gKd σ := by
  intro k w hw h1 h2
  obtain ⟨q1, q2⟩ := h.1 k w hw
  have e : zTp fl bl z k = 1 := by
    unfold zTp
    rw [if_neg (by omega), if_neg (by omega), if_pos (by omega)]
  rw [e] at q2
  exact q2.1.2.1.1 rfl
theorem gLe_refl (σ : jG) : gLe σ σ := ⟨fun k w h => ⟨w, h, wle_refl _⟩, fun _ h => h, fun _ => sLe_refl _⟩
theorem gLe_trans {σ τ ρ : jG} (h : gLe σ τ) (k : gLe τ ρ) : gLe σ ρ := by
  refine ⟨fun i w hw => ?_, fun b hb => k.2.1 b (h.2.1 b hb), fun b => sLe_trans (h.2.2 b) (k.2.2 b)⟩
  obtain ⟨w', e1, l1⟩ := h.1 i w hw
  obtain ⟨w'', e2, l2⟩ := k.1 i w' e1
  exact ⟨w'', e2, wle_trans l1 l2⟩
theorem wJn_u {l : Nat} {t : Nat → Int} {u w : jQ} (hu : vOk F us z l t u) (hw : vOk F us z l t w) : vOk F us z l t (fun k => wJn (u k) (w k)) := by
  refine ⟨fun k => wJn_ok (hu.1 k) (hw.1 k), fun s k hk => ?_, fun k => ?_, fun k j h2 hj => ?_⟩
  · dsimp only at hk ⊢
    by_cases q : (u s).1 = (w s).1 ∧ (u s).1 ≠ 0
    · have e : wJn (u s) (w s) = ((u s).1, rJn (u s).2.1 (w s).2.1, sOr (u s).2.2.1 (w s).2.2.1, (if (u s).2.2.2.1 = (w s).2.2.2.1 then (u s).2.2.2.1 else none), sAnd (u s).2.2.2.2 (w s).2.2.2.2) := by unfold wJn; rw [if_pos q]
      rw [e] at hk ⊢
      dsimp only at hk ⊢
      by_cases c : (u s).2.2.2.1 = (w s).2.2.2.1
      · rw [if_pos c] at hk
        obtain ⟨a1, a2, a3, a4, a5⟩ := hu.2.1 s k hk
        obtain ⟨b1, b2, b3, b4, b5⟩ := hw.2.1 s k (by rw [← c]; exact hk)
        refine ⟨a1, a2, ?_, a4, a5⟩
        exact wJn_k a3 (by omega)
      · rw [if_neg c] at hk; cases hk
    · have e : wJn (u s) (w s) = wU := by unfold wJn; rw [if_neg q]
      rw [e] at hk; cases hk
  · have a := hu.2.2.1 k
    have b := hw.2.2.1 k
    refine ⟨fun q => wJn_k (a.1 q) (b.1 q), fun q => ⟨wJn_k (a.2 q).1 (b.2 q).1, fun s hs => ?_⟩⟩
    have h2 : (u k).1 = (w k).1 ∧ (u k).1 ≠ 0 := by
      have := (a.2 q).1
      have := (b.2 q).1
      omega
    dsimp only at hs
    unfold wJn at hs
    rw [if_pos h2] at hs
    have hs : ((u k).2.2.1 s || (w k).2.2.1 s) = true := hs
    rw [Bool.or_eq_true] at hs
    exact hs.elim ((a.2 q).2 s) ((b.2 q).2 s)
  · dsimp only at h2 hj
    by_cases q : (u k).1 = (w k).1 ∧ (u k).1 ≠ 0
    · unfold wJn at h2 hj
      rw [if_pos q] at h2 hj
      have hj : ((u k).2.2.2.2 j && (w k).2.2.2.2 j) = true := hj
      rw [Bool.and_eq_true] at hj
      exact hu.2.2.2 k j h2 hj.1
    · unfold wJn at h2
      rw [if_neg q] at h2; cases h2
theorem wJn_w {l g : Nat} {t : Nat → Int} {u w : jQ} (hu : rOw F us z l g t u) (hw : rOw F us z l g t w) : rOw F us z l g t (fun k => wJn (u k) (w k)) := by
  refine ⟨wJn_u hu.1 hw.1, fun k hk => ?_⟩
  dsimp only
  rw [hu.2 k hk, hw.2 k hk]; rfl
/-- where a look is at: a row and a table that lie below every solution -/
def pLk (F : Int → Prop) (G : jZ) (lc : Nat → Nat) (ty : Nat → Option (Nat → Int)) (m0 i : Nat) (x : jC) (u0 : jQ) (σ0 : jG) : Prop := (zZ G).1[i]? = some x ∧ (∃ t, ty i = some t ∧ rOw F (zUs G) (zZ G) (lc i) (zH G i) t u0) ∧ gOk F (zUs G) (zFl G) (zBl G) (zZ G) σ0 ∧ ∀ B τ, pSl F G lc ty m0 B τ → (∃ t, B i = some t ∧ qLe u0 t) ∧ gLe σ0 τ
theorem pLk_of {G : jZ} {A : jA} {σ : jG} (h : pIn F G lc ty m0 A σ) {i : Nat} {u : jQ} (hu : A i = some u) : ∃ x, pLk F G lc ty m0 i x u σ := by
  obtain ⟨x, t, q1, q2, q3⟩ := h.1 i u hu
  exact ⟨x, q1, ⟨t, q2, q3⟩, h.2.1, fun B τ hB => ⟨(h.2.2.2 B τ hB).1 i u hu, (h.2.2.2 B τ hB).2⟩⟩
/-- in a solution the same comes out, or more -/
theorem pSl_ed (h : pCx F dn up ns us fl bl z el H lc ty) {i : Nat} {x : jC} {u0 : jQ} {σ0 : jG} (hl : pLk F (dn, up, (ns, us, fl, bl, z, el), H) lc ty m0 i x u0 σ0) {B : jA} {τ : jG} (hB : pSl F (dn, up, (ns, us, fl, bl, z, el), H) lc ty m0 B τ) : (∀ j w, pEd (dn, up, (ns, us, fl, bl, z, el), H) σ0 i x u0 lc j w → ∃ t, B j = some t ∧ qLe w t) ∧ (∀ k, oLe (pCo (dn, up, (ns, us, fl, bl, z, el), H) σ0 x (H i) u0 k) (τ.1 k)) ∧ (x.1 = 42 ∨ x.1 = 43 → τ.2.1 x.2.2.2.1 = true) ∧ sLe (pEs (dn, up, (ns, us, fl, bl, z, el), H) σ0 i x (H i) u0) (τ.2.2 x.2.2.2.1) := by
  obtain ⟨hx, ⟨t, ht, hr⟩, hg0, hbl⟩ := hl
  obtain ⟨⟨v, hv, hle⟩, hgl⟩ := hbl B τ hB
  obtain ⟨x', t', q1, q2, q3⟩ := hB.1 i v hv
  have hx' : z.1[i]? = some x := hx
  have e1 : x' = x := by
    have q1 : z.1[i]? = some x' := q1
    rw [hx'] at q1; cases q1; rfl
  subst e1
  rw [ht] at q2
  cases q2
  have hT := h.1
  obtain ⟨hd, -⟩ := pCx_at h hx' ht q3.1
  obtain ⟨c1, c2, c3, c4⟩ := hB.2.2.2 i x' v hx hv
  have hgk : gKd τ := gOk_kd hB.2.1
  refine ⟨fun j w hE => ?_, fun k => ?_, c3, ?_⟩
  · obtain ⟨w', d1, d2⟩ := pEd_mono (G := (dn, up, (ns, us, fl, bl, z, el), H)) hT hgl hgk hle q3.1.2.1 hr.1.2.1 hr.1.1 hd hE
    obtain ⟨t2, f1, f2⟩ := c1 j w' d1
    exact ⟨t2, f1, qLe_trans d2 f2⟩
  · intro w hw
    obtain ⟨w', d1, d2⟩ := pCo_mono (G := (dn, up, (ns, us, fl, bl, z, el), H)) hT hgl hgk hle q3.1.2.1 hd k w hw
    obtain ⟨w'', f1, f2⟩ := c2 k w' d1
    exact ⟨w'', f1, wle_trans d2 f2⟩
  · exact sLe_trans (pLf_mono (pLs_mono (G := (dn, up, (ns, us, fl, bl, z, el), H)) hT hgl hgk hle q3.1.2.1 hd) _) c4
/-- one arrow more -/
theorem pIn_arr (h : pCx F dn up ns us fl bl z el H lc ty) {A : jA} {σ : jG} (hI : pIn F (dn, up, (ns, us, fl, bl, z, el), H) lc ty m0 A σ) {i : Nat} {x : jC} {u0 : jQ} {σ0 : jG} (hl : pLk F (dn, up, (ns, us, fl, bl, z, el), H) lc ty m0 i x u0 σ0) {j : Nat} {w : jQ} (hE : pEd (dn, up, (ns, us, fl, bl, z, el), H) σ0 i x u0 lc j w) : pIn F (dn, up, (ns, us, fl, bl, z, el), H) lc ty m0 (aArr A j w) σ ∧ aLe A (aArr A j w) ∧ (∃ t, aArr A j w j = some t ∧ qLe w t) ∧ ∃ x' t', z.1[j]? = some x' ∧ ty j = some t' ∧ rOw F us z (lc j) (H j) t' w := by
  obtain ⟨hx, ⟨t, ht, hr⟩, hg0, hbl⟩ := id hl
  obtain ⟨x', t', r1, r2, r3⟩ := pEd_ok h hg0 hx ht hr.1 hE
  have hle : aLe A (aArr A j w) := by
    intro i' u' hu'
    by_cases c : i' = j
    · subst c
      rw [aArr_at, hu']
      exact ⟨_, rfl, fun k => (wJn_ub _ _).1⟩
    · rw [aArr_ne c]; exact ⟨u', hu', qLe_refl _⟩
  have hat : ∃ t, aArr A j w j = some t ∧ qLe w t := by
    rw [aArr_at]
    cases A j with
    | none => exact ⟨_, rfl, qLe_refl _⟩
    | some u => exact ⟨_, rfl, fun k => (wJn_ub _ _).2⟩
  refine ⟨⟨fun i' u' hu' => ?_, hI.2.1, ?_, fun B τ hB => ⟨fun i' u' hu' => ?_, (hI.2.2.2 B τ hB).2⟩⟩, hle, hat, x', t', r1, r2, r3⟩
  · by_cases c : i' = j
    · subst c
      rw [aArr_at] at hu'
      cases hq : A i' with
      | none =>
        rw [hq] at hu'
        cases hu'
        exact ⟨x', t', r1, r2, r3⟩
      | some u =>
        rw [hq] at hu'
        cases hu'
        obtain ⟨x2, t2, s1, s2, s3⟩ := hI.1 i' u hq
        rw [r2] at s2
        cases s2
        exact ⟨x', t', r1, r2, wJn_w s3 r3⟩
    · rw [aArr_ne c] at hu'
      exact hI.1 i' u' hu'
  · obtain ⟨u, e1, e2⟩ := hI.2.2.1
    obtain ⟨v, f1, f2⟩ := hle m0 u e1
    exact ⟨v, f1, qLe_trans e2 f2⟩
  · by_cases c : i' = j
    · subst c
      obtain ⟨tB, g1, g2⟩ := (pSl_ed h hl hB).1 i' w hE
      rw [aArr_at] at hu'
      cases hq : A i' with
      | none => rw [hq] at hu'; cases hu'; exact ⟨tB, g1, g2⟩
      | some u =>
        rw [hq] at hu'
        cases hu'
        obtain ⟨tB', s1, s2⟩ := (hI.2.2.2 B τ hB).1 i' u hq
        rw [g1] at s1
        cases s1
        exact ⟨tB, g1, fun k => wJn_lub (s2 k) (g2 k)⟩
    · rw [aArr_ne c] at hu'
      exact (hI.2.2.2 B τ hB).1 i' u' hu'
/-- one value more -/
theorem gAd_le (σ : jG) (k : Nat) (w : jW) : gLe σ (gAd σ k w) ∧ oLe (some w) ((gAd σ k w).1 k) := by
  constructor
  · refine ⟨fun k' v hv => ?_, fun _ h => h, fun _ => sLe_refl _⟩
    unfold gAd
    dsimp only
    by_cases c : k' = k
    · rw [if_pos c]
      rw [c] at hv
      rw [hv]
      exact ⟨_, rfl, (wJn_ub _ _).1⟩
    · rw [if_neg c]; exact ⟨v, hv, wle_refl _⟩
  · unfold gAd
    dsimp only
    rw [if_pos rfl]
    intro v hv
    cases hv
    cases σ.1 k with
    | none => exact ⟨_, rfl, wle_refl _⟩
    | some a => exact ⟨_, rfl, (wJn_ub _ _).2⟩
theorem zTp_nz (h : pCx F dn up ns us fl bl z el H lc ty) {i : Nat} {x : jC} {u0 : jQ} {σ0 : jG} (hl : pLk F (dn, up, (ns, us, fl, bl, z, el), H) lc ty m0 i x u0 σ0) {k : Nat} {w : jW} (hw : pCo (dn, up, (ns, us, fl, bl, z, el), H) σ0 x (H i) u0 k = some w) {w' : jW} (hv : vl1 F us z (zTp fl bl z k) w') : (zTp fl bl z k = 1 ∨ 2 ≤ zTp fl bl z k) ∨ w'.1 ≠ 0 := Or.inr hv.2.2.2
theorem pIn_ad (h : pCx F dn up ns us fl bl z el H lc ty) {A : jA} {σ : jG} (hI : pIn F (dn, up, (ns, us, fl, bl, z, el), H) lc ty m0 A σ) {i : Nat} {x : jC} {u0 : jQ} {σ0 : jG} (hl : pLk F (dn, up, (ns, us, fl, bl, z, el), H) lc ty m0 i x u0 σ0) {k : Nat} {w : jW} (hw : pCo (dn, up, (ns, us, fl, bl, z, el), H) σ0 x (H i) u0 k = some w) (ht : zTp fl bl z k = 1 ∨ 2 ≤ zTp fl bl z k) : pIn F (dn, up, (ns, us, fl, bl, z, el), H) lc ty m0 A (gAd σ k w) := by
  obtain ⟨hx, ⟨t, htt, hr⟩, hg0, hbl⟩ := id hl
  obtain ⟨q1, q2⟩ := pCo_ok h (σ := σ0) hx htt hr.1 hw
  have g2 : gOk F us fl bl z σ := hI.2.1
  refine ⟨hI.1, ⟨fun k' v hv => ?_, g2.2.1, fun b y h1 h2 h3 => ?_⟩, hI.2.2.1, fun B τ hB => ⟨(hI.2.2.2 B τ hB).1, ?_⟩⟩
  · show k' < 2748 ∧ vl1 F us z (zTp fl bl z k') v
    unfold gAd at hv
    dsimp only at hv
    by_cases c : k' = k
    · rw [if_pos c] at hv
      cases hq : σ.1 k with
      | none => rw [hq] at hv; cases hv; rw [c]; exact ⟨q1, q2⟩
      | some a =>
        rw [hq] at hv
        cases hv
        rw [c]
        exact ⟨q1, wJn_v ht (g2.1 k a hq).2 q2⟩
    · rw [if_neg c] at hv; exact g2.1 k' v hv
  · have := g2.2.2 b y h1 h2 h3
    show (if 2700 + b = k then oJ (σ.1 k) (some w) else σ.1 (2700 + b)) ≠ none
    by_cases c : 2700 + b = k
    · rw [if_pos c]
      cases σ.1 k with
      | none => exact fun q => by cases q
      | some a => exact fun q => by cases q
    · rw [if_neg c]; exact this
  · have hgl := (hI.2.2.2 B τ hB).2
    refine ⟨fun k' v hv => ?_, hgl.2.1, hgl.2.2⟩
    unfold gAd at hv
    dsimp only at hv
    by_cases c : k' = k
    · rw [if_pos c] at hv
      rw [c]
      obtain ⟨w', f1, f2⟩ := (pSl_ed h hl hB).2.1 k w hw
      cases hq : σ.1 k with
      | none => rw [hq] at hv; cases hv; exact ⟨w', f1, f2⟩
      | some a =>
        rw [hq] at hv
        cases hv
        obtain ⟨a', s1, s2⟩ := hgl.1 k a hq
        rw [f1] at s1
        cases s1
        exact ⟨w', f1, wJn_lub s2 f2⟩
    · rw [if_neg c] at hv; exact hgl.1 k' v hv
theorem pIn_en (h : pCx F dn up ns us fl bl z el H lc ty) {A : jA} {σ : jG} (hI : pIn F (dn, up, (ns, us, fl, bl, z, el), H) lc ty m0 A σ) {i : Nat} {x : jC} {u0 : jQ} {σ0 : jG} (hl : pLk F (dn, up, (ns, us, fl, bl, z, el), H) lc ty m0 i x u0 σ0) (h42 : x.1 = 42 ∨ x.1 = 43) (hv : ∀ y, bl[x.2.2.2.1]? = some y → y.rs ≠ -1 → σ.1 (2700 + x.2.2.2.1) ≠ none) : pIn F (dn, up, (ns, us, fl, bl, z, el), H) lc ty m0 A (gEn σ x.2.2.2.1) := by
  have g2 : gOk F us fl bl z σ := hI.2.1
  refine ⟨hI.1, ⟨g2.1, g2.2.1, fun b y h1 h2 h3 => ?_⟩, hI.2.2.1, fun B τ hB => ⟨(hI.2.2.2 B τ hB).1, ?_⟩⟩
  · have h1 : (if b = x.2.2.2.1 then true else σ.2.1 b) = true := h1
    by_cases c : b = x.2.2.2.1
    · rw [c] at h2 ⊢; exact hv y h2 h3
    · rw [if_neg c] at h1; exact g2.2.2 b y h1 h2 h3
  · have hgl := (hI.2.2.2 B τ hB).2
    refine ⟨hgl.1, fun b hb => ?_, hgl.2.2⟩
    have hb : (if b = x.2.2.2.1 then true else σ.2.1 b) = true := hb
    by_cases c : b = x.2.2.2.1
    · rw [c]; exact (pSl_ed h hl hB).2.2.1 h42
    · rw [if_neg c] at hb; exact hgl.2.1 b hb
theorem pIn_th (h : pCx F dn up ns us fl bl z el H lc ty) {A : jA} {σ : jG} (hI : pIn F (dn, up, (ns, us, fl, bl, z, el), H) lc ty m0 A σ) {i : Nat} {x : jC} {u0 : jQ} {σ0 : jG} (hl : pLk F (dn, up, (ns, us, fl, bl, z, el), H) lc ty m0 i x u0 σ0) : pIn F (dn, up, (ns, us, fl, bl, z, el), H) lc ty m0 A (gTh σ x.2.2.2.1 (pEs (dn, up, (ns, us, fl, bl, z, el), H) σ0 i x (H i) u0)) := by
  obtain ⟨hx, ⟨t, htt, hr⟩, hg0, hbl⟩ := id hl
  have g2 : gOk F us fl bl z σ := hI.2.1
  refine ⟨hI.1, ⟨g2.1, fun b s hs => ?_, g2.2.2⟩, hI.2.2.1, fun B τ hB => ⟨(hI.2.2.2 B τ hB).1, ?_⟩⟩
  · have hs : (if b = x.2.2.2.1 then sOr (σ.2.2 x.2.2.2.1) (pEs (dn, up, (ns, us, fl, bl, z, el), H) σ0 i x (H i) u0) else σ.2.2 b) s = true := hs
    by_cases c : b = x.2.2.2.1
    · rw [if_pos c] at hs
      unfold sOr at hs
      rw [Bool.or_eq_true] at hs
      exact hs.elim (g2.2.1 _ s) (fun q => pEs_ok h hg0 hx htt hr.1 q)
    · rw [if_neg c] at hs; exact g2.2.1 b s hs
  · have hgl := (hI.2.2.2 B τ hB).2
    refine ⟨hgl.1, hgl.2.1, fun b s hs => ?_⟩
    have hs : (if b = x.2.2.2.1 then sOr (σ.2.2 x.2.2.2.1) (pEs (dn, up, (ns, us, fl, bl, z, el), H) σ0 i x (H i) u0) else σ.2.2 b) s = true := hs
    by_cases c : b = x.2.2.2.1
    · rw [if_pos c] at hs
      unfold sOr at hs
      rw [Bool.or_eq_true] at hs
      rw [c]
      exact hs.elim (hgl.2.2 _ s) (fun q => (pSl_ed h hl hB).2.2.2 s q)
    · rw [if_neg c] at hs; exact hgl.2.2 b s hs
/-- two least solutions are one -/
theorem pSl_u {G : jZ} {A B : jA} {σ τ : jG} (hA : pIn F G lc ty m0 A σ) (hB : pIn F G lc ty m0 B τ) (cA : ∀ i, pCl G lc A σ i) (cB : ∀ i, pCl G lc B τ i) : A = B ∧ σ = τ := by
  have sA : pSl F G lc ty m0 A σ := ⟨hA.1, hA.2.1, hA.2.2.1, cA⟩
  have sB : pSl F G lc ty m0 B τ := ⟨hB.1, hB.2.1, hB.2.2.1, cB⟩
  obtain ⟨l1, g1⟩ := hA.2.2.2 B τ sB
  obtain ⟨l2, g2⟩ := hB.2.2.2 A σ sA
  constructor
  · funext i
    cases ha : A i with
    | none =>
      cases hb : B i with
      | none => rfl
      | some t =>
        obtain ⟨q, q1, -⟩ := l2 i t hb
        rw [ha] at q1; cases q1
    | some u =>
      obtain ⟨t, t1, t2⟩ := l1 i u ha
      rw [t1]
      obtain ⟨q, q1, q2⟩ := l2 i t t1
      rw [ha] at q1
      cases q1
      congr 1
      funext k
      obtain ⟨x1, t1', p1, p2, r1⟩ := hA.1 i u ha
      obtain ⟨x2, t2', p3, p4, r2⟩ := hB.1 i t t1
      exact wle_anti (r1.1.1 k) (r2.1.1 k) (t2 k) (q2 k)
  · have e1 : σ.1 = τ.1 := by
      funext k
      cases ha : σ.1 k with
      | none =>
        cases hb : τ.1 k with
        | none => rfl
        | some t =>
          obtain ⟨q, q1, -⟩ := g2.1 k t hb
          rw [ha] at q1; cases q1
      | some u =>
        obtain ⟨t, t1, t2⟩ := g1.1 k u ha
        rw [t1]
        obtain ⟨q, q1, q2⟩ := g2.1 k t t1
        rw [ha] at q1
        cases q1
        rw [wle_anti (hA.2.1.1 k u ha).2.1.1 (hB.2.1.1 k t t1).2.1.1 t2 q2]
    have e2 : σ.2.1 = τ.2.1 := by
      funext b
      cases ha : σ.2.1 b with
      | true => rw [g1.2.1 b ha]
      | false =>
        cases hb : τ.2.1 b with
        | true => rw [g2.2.1 b hb] at ha; cases ha
        | false => rfl
    have e3 : σ.2.2 = τ.2.2 := by
      funext b
      exact sLe_anti (g1.2.2 b) (g2.2.2 b)
    exact Prod.ext e1 (Prod.ext e2 e3)
end PLE
