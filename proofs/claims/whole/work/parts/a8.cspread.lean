/-! Types: the class spreads the types of an instruction. -/
def tSt (us : List Int) (fl : List (List Int × Nat × Int)) (bl : List jB) (z : jL) (b : Nat) (xb : jB) (M : Nat → Nat) (e : Nat × Nat × Nat × Nat) (i : Nat) (u : Nat → Int) (D : Nat → (Nat → Int) → Prop) (X : jX) (W : Nat → Bool) : Prop := tInv us fl bl z b xb M e X ∧ (∃ u', X i = some u') ∧ (∀ i', i' ≠ i → W i' = false → tCl us fl bl z b xb.lc.toNat M X i') ∧ (W i = true ∨ (X i = some u ∧ ∀ j w, D j w → ∃ t, X j = some t ∧ vle us w t))
def tWX (X : jX) (W : Nat → Bool) : Prop := ∀ i, W i = true → ∃ u, X i = some u
/-- what may have happened to the types -/
def tGo (X : jX) (W : Nat → Bool) (ch : Bool) (X' : jX) (W' : Nat → Bool) (ch' : Bool) : Prop := tMs X' ≤ tMs X ∧ (ch' = true → ch = true ∨ tMs X' < tMs X) ∧ (ch' = false → ch = false ∧ X' = X ∧ W' = W) ∧ (∀ i, W i = true → W' i = true) ∧ (tWX X W → tWX X' W')
theorem tGo_rfl (X : jX) (W : Nat → Bool) (ch : Bool) : tGo X W ch X W ch := ⟨Nat.le_refl _, Or.inl, fun h => ⟨h, rfl, rfl⟩, fun _ h => h, id⟩
theorem tGo_trans {X1 X2 X3 : jX} {W1 W2 W3 : Nat → Bool} {c1 c2 c3 : Bool} (h : tGo X1 W1 c1 X2 W2 c2) (k : tGo X2 W2 c2 X3 W3 c3) : tGo X1 W1 c1 X3 W3 c3 := by
  obtain ⟨a1, a2, a3, a4, a5⟩ := h
  obtain ⟨b1, b2, b3, b4, b5⟩ := k
  refine ⟨by omega, fun h => ?_, fun h => ?_, fun i h => b4 i (a4 i h), fun h => b5 (a5 h)⟩
  · rcases b2 h with q | q
    · rcases a2 q with r | r
      · exact Or.inl r
      · right; omega
    · right; omega
  · obtain ⟨q1, q2, q3⟩ := b3 h
    obtain ⟨r1, r2, r3⟩ := a3 q1
    exact ⟨r1, q2.trans r2, q3.trans r3⟩
section CSP
variable {ns : List (List Int)} {us : List Int} {fl : List (List Int × Nat × Int)} {bl : List jB} {z : jL} {el : List (Nat × Nat × Nat × Nat)} {b : Nat} {xb : jB} {e : Nat × Nat × Nat × Nat} {M : Nat → Nat} {Q : Nat}
theorem tSt_w {i : Nat} {u : Nat → Int} {D D' : Nat → (Nat → Int) → Prop} {X : jX} {W : Nat → Bool} (h : tSt us fl bl z b xb M e i u D X W) (hD : W i = true ∨ ∀ j w, D' j w → D j w) : tSt us fl bl z b xb M e i u D' X W := by
  obtain ⟨h1, h2, h3, h4⟩ := h
  refine ⟨h1, h2, h3, ?_⟩
  rcases hD with q | q
  · exact Or.inl q
  · rcases h4 with r | ⟨r1, r2⟩
    · exact Or.inl r
    · exact Or.inr ⟨r1, fun j w hd => r2 j w (q j w hd)⟩
theorem tCl_up (h : tCx ns us fl bl z b xb e M) {X X' : jX} {i : Nat} (hX : tOK us xb.lc.toNat M e X) (hX' : tOK us xb.lc.toNat M e X') (hc : tCl us fl bl z b xb.lc.toNat M X i) (he : X' i = X i) (hb : tBe us X X') : tCl us fl bl z b xb.lc.toNat M X' i := by
  have h' := h
  obtain ⟨w1, g, hb', huO, hl, h8, h32, -⟩ := h
  intro x u hx hu j w hE
  rw [he] at hu
  obtain ⟨t, t1, t2⟩ := hc x u hx hu j w hE
  obtain ⟨t', q1, q2⟩ := hb j t t1
  obtain ⟨o1, o2, o3, o4⟩ := hX i u hu
  obtain ⟨r1, r2, r3, r4⟩ := tEd_row h' o1 o2 hx o3 (fun k => (o4 k).1) hE
  exact ⟨t', q1, vle_trans huO (by omega) (fun k => (r4 k).1) (fun k => ((hX' j t' q1).2.2.2 k).1) t2 q2⟩
theorem tSt_step (h : tCx ns us fl bl z b xb e M) {i : Nat} {x : jC} {u : Nat → Int} {D : Nat → (Nat → Int) → Prop} {X : jX} {W : Nat → Bool} (hS : tSt us fl bl z b xb M e i u D X W) (hD : ∀ j w, D j w → ∀ k, tV us (w k)) (hx : z.1[i]? = some x) {u0 : Nat → Int} (hu0 : ∀ k, tV us (u0 k)) (hB : tB1 us fl bl z b xb M e i u0) {j : Nat} {w : Nat → Int} (hE : tEd fl bl z b xb.lc.toNat M i x u0 j w) : tSt us fl bl z b xb M e i u (fun j' w' => D j' w' ∨ (j' = j ∧ w' = w)) (tArr us X j w) (fun i' => if i' = j ∧ tNw us X j w = true then true else W i') := by
  obtain ⟨s1, ⟨u', s2⟩, s3, s4⟩ := hS
  obtain ⟨o1, o2, o3, o4⟩ := s1.1 i u' s2
  obtain ⟨r1, r2, r3, r4⟩ := tEd_row h o1 o2 hx o3 hu0 hE
  obtain ⟨a1, a2, t, a3, a4⟩ := tArr_inv h s1 o1 o2 hx o3 hu0 hB hE
  have huO := h.2.2.2.1
  have hl := h.2.2.2.2.1
  have h32 := h.2.2.2.2.2.2.1
  refine ⟨a1, ?_, fun i' hi' hw' => ?_, ?_⟩
  · obtain ⟨q, q1, -⟩ := a2 i u' s2
    exact ⟨q, q1⟩
  · dsimp only at hw'
    by_cases c : i' = j ∧ tNw us X j w = true
    · rw [if_pos c] at hw'; cases hw'
    · rw [if_neg c] at hw'
      refine tCl_up h s1.1 a1.1 (s3 i' hi' hw') ?_ a2
      by_cases c2 : i' = j
      · cases hn : tNw us X j w with
        | true => exact absurd ⟨c2, hn⟩ c
        | false => rw [tNw_f h s1.1 r4 hn]
      · exact tArr_ne c2
  · dsimp only
    by_cases c : i = j ∧ tNw us X j w = true
    · rw [if_pos c]; exact Or.inl rfl
    · rw [if_neg c]
      rcases s4 with q | ⟨q1, q2⟩
      · exact Or.inl q
      · right
        refine ⟨?_, fun j' w' hd => ?_⟩
        · by_cases c2 : i = j
          · cases hn : tNw us X j w with
            | true => exact absurd ⟨c2, hn⟩ c
            | false => rw [tNw_f h s1.1 r4 hn]; exact q1
          · rw [tArr_ne c2]; exact q1
        · rcases hd with hd | ⟨e1, e2⟩
          · obtain ⟨t', p1, p2⟩ := q2 j' w' hd
            obtain ⟨t2, p3, p4⟩ := a2 j' t' p1
            exact ⟨t2, p3, vle_trans huO (by omega) (hD j' w' hd) (fun k => ((a1.1 j' t2 p3).2.2.2 k).1) p2 p4⟩
          · rw [e1, e2]; exact ⟨t, a3, a4⟩
theorem tGo_step (h : tCx ns us fl bl z b xb e M) {X : jX} (hX : tOK us xb.lc.toNat M e X) {j : Nat} (hj : j < 1024) {w : Nat → Int} (hr : tRow us xb.lc.toNat (hgt (M j)) w) (W : Nat → Bool) (ch : Bool) : tGo X W ch (tArr us X j w) (fun i' => if i' = j ∧ tNw us X j w = true then true else W i') (ch || tNw us X j w) := by
  obtain ⟨t1, t2⟩ := tNw_t h hX hj hr
  refine ⟨t1, fun hc => ?_, fun hc => ?_, fun i hi => ?_, fun hw i hi => ?_⟩
  · rw [Bool.or_eq_true] at hc
    exact hc.elim Or.inl (fun k => Or.inr (t2 k))
  · rw [Bool.or_eq_false_iff] at hc
    refine ⟨hc.1, tNw_f h hX hr hc.2, ?_⟩
    funext i
    rw [hc.2, if_neg (fun q => by cases q.2)]
  · dsimp only
    rw [hi]
    split <;> rfl
  · by_cases c : i = j
    · subst c; rw [tArr_at]; exact ⟨_, rfl⟩
    · rw [tArr_ne c]
      dsimp only at hi
      rw [if_neg (fun q => c q.1)] at hi
      exact hw i hi
/-- the class goes along an arrow -/
theorem c_arrow (hQ : Q = 13 ∨ Q = 49) (h : tCx ns us fl bl z b xb e M) {S : nk_S} (hv : cTv S Q (ns, us, fl, bl, z, el) e M) {i : Nat} {x : jC} {u : Nat → Int} {D : Nat → (Nat → Int) → Prop} {X : jX} {W : Nat → Bool} {ch : Bool} (hm : cTm xb.lc.toNat M e S X W ch) (hS : tSt us fl bl z b xb M e i u D X W) (hD : ∀ j w, D j w → ∀ k, tV us (w k)) (hx : z.1[i]? = some x) {u0 : Nat → Int} (hu0 : ∀ k, tV us (u0 k)) (hB : tB1 us fl bl z b xb M e i u0) {j : Nat} {v : Nat → Int} (hE : tEd fl bl z b xb.lc.toNat M i x u0 j (rst xb.lc.toNat (hgt (M j)) v)) (h91 : ∀ k, rel xb.lc.toNat (hgt (M j)) k → S.1 91 k = v k) : ∃ S' X' W' ch', ja_X9_arrive 86 (j : Int) xb.lc (hgt (M j) : Int) S = some (0, S') ∧ tFr S S' ∧ cTv S' Q (ns, us, fl, bl, z, el) e M ∧ cTm xb.lc.toNat M e S' X' W' ch' ∧ tSt us fl bl z b xb M e i u (fun j' w' => D j' w' ∨ (j' = j ∧ w' = rst xb.lc.toNat (hgt (M j)) v)) X' W' ∧ tGo X W ch X' W' ch' := by
  obtain ⟨s1, ⟨u', s2⟩, s3, s4⟩ := hS
  obtain ⟨o1, o2, o3, o4⟩ := s1.1 i u' s2
  obtain ⟨r1, r2, r3, r4⟩ := tEd_row h o1 o2 hx o3 hu0 hE
  obtain ⟨l1, l2, l3⟩ := lc_12 h
  have huO := h.2.2.2.1
  have hl := h.2.2.2.2.1
  have h32 := h.2.2.2.2.2.2.1
  have hz := h.2.2.2.2.2.2.2.2.2.2.2.2.2.2.1
  have hen := h.1.2.2.1
  have hg8 : hgt (M j) ≤ 8 := (h.2.1.2.2 j (z.1[j]'(by omega)) r1 r2 (List.getElem?_eq_getElem (by omega)) r3).2.2.1
  have v3 := hv.2.2.1
  have hJ : cJL S Q z := v3.2.2.2.2.2.2.2.2.1
  have hwv : ∀ k, rel xb.lc.toNat (hgt (M j)) k → tV us (v k) := by
    intro k hk
    have := (r4 k).1
    unfold rst at this
    rw [if_pos hk] at this
    exact this
  obtain ⟨S', a1, a2, a3⟩ := c_arr hQ huO (by omega) l1 hg8 s1.1 rfl r1 r2 hen hz hwv hv.1 hv.2.1 hJ.1.1 v3.1 h91 hm
  rw [l2] at a1
  exact ⟨S', _, _, _, a1, a2, cTv_F hQ a2.1 (fun a ha => a2.2.1 a (by omega) (by omega) (by omega) (by omega)) hv, a3, tSt_step h ⟨s1, ⟨u', s2⟩, s3, s4⟩ hD hx hu0 hB hE, tGo_step h s1.1 (by omega) r4 W ch⟩
/-- the arrows of a body's instruction over catches before k -/
def tDc (z : jL) (lc : Nat) (M : Nat → Nat) (i : Nat) (u : Nat → Int) (cs k : Nat) (D : Nat → (Nat → Int) → Prop) (j : Nat) (w : Nat → Int) : Prop := D j w ∨ ∃ (k' : Nat) (y : Nat × Nat × Nat × Nat × Nat), cs ≤ k' ∧ k' < k ∧ z.2.2.1[k']? = some y ∧ y.2.1 ≤ i ∧ i < y.2.2.1 ∧ j = y.2.2.2.1 ∧ w = rst lc (hgt (M j)) (tUp u 12 (4 + 2 * (y.2.2.2.2 : Int)))
def tFs (S S' : nk_S) : Prop := S'.2 = S.2 ∧ (∀ a, a ≠ 86 → a ≠ 88 → a ≠ 89 → a ≠ 90 → a ≠ 91 → S'.1 a = S.1 a) ∧ ∀ i, i ≠ 7 → S'.1 86 i = S.1 86 i
theorem tFs_rfl {S : nk_S} : tFs S S := ⟨rfl, fun _ _ _ _ _ _ => rfl, fun _ _ => rfl⟩
theorem tFs_trans {S1 S2 S3 : nk_S} (h : tFs S1 S2) (k : tFs S2 S3) : tFs S1 S3 := ⟨k.1.trans h.1, fun a x y z w v => (k.2.1 a x y z w v).trans (h.2.1 a x y z w v), fun i x => (k.2.2 i x).trans (h.2.2 i x)⟩
theorem tFs_F {S S' : nk_S} (h : tFr S S') : tFs S S' := ⟨h.1, fun a x y z w _ => h.2.1 a x y z w, h.2.2⟩
theorem tFs_91 {S S' : nk_S} (h2 : S'.2 = S.2) (h : ∀ a, a ≠ 91 → S'.1 a = S.1 a) : tFs S S' := ⟨h2, fun a _ _ _ _ x => h a x, fun i _ => by rw [h 86 (by decide)]⟩
theorem cTv_s (hQ : Q = 13 ∨ Q = 49) {S S' : nk_S} {p : jP} (h : tFs S S') (hv : cTv S Q p e M) : cTv S' Q p e M := cTv_F hQ h.1 (fun a ha => h.2.1 a (by omega) (by omega) (by omega) (by omega) (by omega)) hv
theorem cTm_91 {S S' : nk_S} {X : jX} {W : Nat → Bool} {ch : Bool} {lc : Nat} (h : ∀ a, a ≠ 91 → S'.1 a = S.1 a) (hm : cTm lc M e S X W ch) : cTm lc M e S' X W ch := by
  unfold cTm at hm ⊢
  rw [h 86 (by decide), h 88 (by decide), h 89 (by decide), h 90 (by decide)]
  exact hm
theorem c_tcat (hQ : Q = 13 ∨ Q = 49) (h : tCx ns us fl bl z b xb e M) (he : el[b]? = some e) (hb48 : b < 48) {i : Nat} {x : jC} (hx : z.1[i]? = some x) {u : Nat → Int} (hu : ∀ k, tV us (u k)) {D : Nat → (Nat → Int) → Prop} (hD : ∀ j w, D j w → ∀ k, tV us (w k)) : ∀ (d k m : Nat) (X : jX) (W : Nat → Bool) (ch : Bool) (S : nk_S), cTv S Q (ns, us, fl, bl, z, el) e M → cTm xb.lc.toNat M e S X W ch → tSt us fl bl z b xb M e i u (tDc z xb.lc.toNat M i u e.2.2.1 k D) X W → e.2.2.1 ≤ k → k + d = e.2.2.2 → d < m → ∃ S' X' W' ch', ja_X9_spreadTypes_L128 m 86 (i : Int) (b : Int) xb.lc (k : Int) S = some (0, S') ∧ tFs S S' ∧ cTm xb.lc.toNat M e S' X' W' ch' ∧ tSt us fl bl z b xb M e i u (tDc z xb.lc.toNat M i u e.2.2.1 e.2.2.2 D) X' W' ∧ tGo X W ch X' W' ch' := by
  intro d
  induction d with
  | zero =>
    intro k m X W ch S hv hm hS h0 h1 h2
    obtain ⟨m, rfl⟩ : ∃ q, m = q + 1 := ⟨m - 1, by omega⟩
    have hE : cEl S Q el := hv.2.2.1.2.2.2.2.2.2.1
    refine ⟨S, X, W, ch, ?_, tFs_rfl, hm, ?_, tGo_rfl X W ch⟩
    · show ja_X9_spreadTypes_b128 (ja_X9_spreadTypes_L128 m) 86 (i : Int) (b : Int) xb.lc (k : Int) S = _
      unfold ja_X9_spreadTypes_b128
      rw [if_pos (in_i (N := 48) (by omega)), hv.1, (jc_Qf hQ).2.2.2.2, (jc_Qb hQ).2.2.2.2.1, Int.toNat_natCast, (hE b e he).2.2.2, if_pos (by omega)]
    · rw [show k = e.2.2.2 by omega] at hS; exact hS
  | succ d ih =>
    intro k m X W ch S hv hm hS h0 h1 h2
    obtain ⟨m, rfl⟩ : ∃ q, m = q + 1 := ⟨m - 1, by omega⟩
    have hw := h.1
    have hE : cEl S Q el := hv.2.2.1.2.2.2.2.2.2.1
    have hJ : cJL S Q z := hv.2.2.1.2.2.2.2.2.2.2.2.1
    have hK := hJ.2.2.1
    have hce := hw.2.2.2.2.2.1
    have h64 := h.2.2.2.2.2.2.2.2.2.2.2.2.2.2.2.2
    obtain ⟨y, hy⟩ : ∃ y, z.2.2.1[k]? = some y := ⟨z.2.2.1[k]'(by omega), List.getElem?_eq_getElem (by omega)⟩
    have hyb : y.1 = b := (hw.2.2.2.2.2.2.1 k y hy).mpr ⟨h0, by omega⟩
    have hr := hw.2.2.2.2.2.2.2 k y hy hyb
    obtain ⟨s1, ⟨u', s2⟩, s3, s4⟩ := hS
    obtain ⟨o1, o2, o3, o4⟩ := s1.1 i u' s2
    obtain ⟨-, -, hi⟩ := cW_at h o1 o2 hx
    have hS : tSt us fl bl z b xb M e i u (tDc z xb.lc.toNat M i u e.2.2.1 k D) X W := ⟨s1, ⟨u', s2⟩, s3, s4⟩
    by_cases c : y.2.1 ≤ i ∧ i < y.2.2.1
    · obtain ⟨A, hA⟩ : ∃ A, A = nk_wi (nk_cp S 88 (i * 20) 91 0 20) 91 12 (4 + 2 * (y.2.2.2.2 : Int)) := ⟨_, rfl⟩
      have an : ∀ a, a ≠ 91 → A.1 a = S.1 a := fun a ha => by rw [hA, wi_n ha, cp_n ha]
      have a91 : ∀ q, q < 20 → A.1 91 q = if q = 12 then 4 + 2 * (y.2.2.2.2 : Int) else S.1 88 (i * 20 + q) := fun q hq => by
        rw [hA, wi_at]
        by_cases q12 : q = 12
        · rw [if_pos q12, if_pos q12]
        · rw [if_neg q12, if_neg q12, cp_v, if_pos ⟨rfl, by omega, by omega⟩, Nat.sub_zero]
      have vA : cTv A Q (ns, us, fl, bl, z, el) e M := cTv_s hQ (tFs_91 (by rw [hA]; rfl) an) hv
      have mA := cTm_91 an hm
      have hgd := (h.2.1.2.2 i x o1 o2 hx o3).2.2.2.2.2 k y hy hyb c.1 c.2
      have hE2 : tEd fl bl z b xb.lc.toNat M i x u' y.2.2.2.1 (rst xb.lc.toNat (hgt (M y.2.2.2.1)) (tUp u' 12 (4 + 2 * (y.2.2.2.2 : Int)))) := Or.inr ⟨k, y, hy, hyb, c.1, c.2, rfl, rfl⟩
      have hDk : ∀ j w, tDc z xb.lc.toNat M i u e.2.2.1 k D j w → ∀ q, tV us (w q) := by
        intro j w hjw q
        rcases hjw with g | ⟨k', y', g1, g2, g3, g4, g5, g6, g7⟩
        · exact hD j w g q
        · have hyb' : y'.1 = b := (hw.2.2.2.2.2.2.1 k' y' g3).mpr ⟨g1, by omega⟩
          exact ((tEd_row h o1 o2 hx o3 hu (Or.inr ⟨k', y', g3, hyb', g4, g5, g6, g7⟩)).2.2.2 q).1
      obtain ⟨l1, l2, l3⟩ := lc_12 h
      obtain ⟨B, X1, W1, c1, b1, b2, b3, b4, b5, b6⟩ := c_arrow hQ h vA mA hS hDk hx (fun q => (o4 q).1) (s1.2.2 i u' s2) hE2 (fun q hq => by
        rw [hgd.2] at hq
        rw [a91 q (by unfold rel at hq; omega)]
        unfold tUp
        by_cases q12 : q = 12
        · rw [if_pos q12, if_pos q12]
        · rw [if_neg q12, if_neg q12]
          exact hm.2.1 i u' s2 q (by unfold rel at hq ⊢; omega))
      have hS1 : tSt us fl bl z b xb M e i u (tDc z xb.lc.toNat M i u e.2.2.1 (k + 1) D) X1 W1 := by
        refine tSt_w b5 ?_
        cases hWi : W i with
        | true => exact Or.inl (b6.2.2.2.1 i hWi)
        | false =>
          right
          have hu' : u' = u := by
            rcases s4 with g | g
            · rw [hWi] at g; cases g
            · rw [s2] at g; exact Option.some.inj g.1
          intro j w hjw
          rcases hjw with g | ⟨k', y', g1, g2, g3, g4, g5, g6, g7⟩
          · exact Or.inl (Or.inl g)
          · by_cases ck : k' = k
            · right
              rw [ck, hy] at g3
              cases g3
              rw [hu']
              exact ⟨g6, by rw [g7, g6]⟩
            · exact Or.inl (Or.inr ⟨k', y', g1, by omega, g3, g4, g5, g6, g7⟩)
      obtain ⟨S', X', W', c', i1, i2, i3, i4, i5⟩ := ih (k + 1) m X1 W1 c1 B b3 b4 hS1 (by omega) (by omega) (by omega)
      refine ⟨S', X', W', c', ?_, tFs_trans (tFs_91 (by rw [hA]; rfl) an) (tFs_trans (tFs_F b2) i2), i3, i4, tGo_trans b6 i5⟩
      show ja_X9_spreadTypes_b128 (ja_X9_spreadTypes_L128 m) 86 (i : Int) (b : Int) xb.lc (k : Int) S = _
      have hA2 : A.2 86 0 = Q := vA.1
      have k34 : A.1 (Q + 34) k = (y.2.2.2.1 : Int) := by rw [an (Q + 34) (by omega)]; exact (hK.2 k y hy).2.2.1
      have k35 : (nk_cp S 88 (i * 20) 91 0 20).1 (Q + 35) k = (y.2.2.2.2 : Int) := by rw [cp_n (by omega)]; exact (hK.2 k y hy).2.2.2
      have hcl := hr.2.2.2.2.2.2.1
      have h32 := h.2.2.2.2.2.2.1
      have e2 : nk_w (2 * (y.2.2.2.2 : Int)) = 2 * (y.2.2.2.2 : Int) := nk_w_id (by omega) (by omega)
      have e4 : nk_w (4 + 2 * (y.2.2.2.2 : Int)) = 4 + 2 * (y.2.2.2.2 : Int) := nk_w_id (by omega) (by omega)
      have hcp : (nk_cp S 88 (i * 20) 91 0 20).2 86 0 = Q := hv.1
      have e1 : (hgt (M y.2.2.2.1) : Int) = 1 := by rw [hgd.2]; rfl
      rw [e1] at b1
      unfold ja_X9_spreadTypes_b128
      rw [if_pos (in_i (N := 48) (by clear e2 e4; omega)), hv.1, (jc_Qf hQ).2.2.2.2, (jc_Qb hQ).2.2.2.2.1, Int.toNat_natCast, (hE b e he).2.2.2, if_neg (by clear e2 e4; omega), c_cov hQ hK hy h64, bd_some, decide_eq_true c, if_neg (show ¬ bi true = 0 by decide), wi20 hi, if_pos (by clear e2 e4; omega), lt_eq, jc_86_3, jc_86_6, Int.toNat_natCast, if_pos (in_i (N := 64) (by clear e2 e4; omega)), lt_eq, hcp, (jc_Qp hQ).2.2.2.2.2.2.2.2.2.2.2, Int.toNat_natCast, k35, e2, e4, ← hA, hA2, (jc_Qp hQ).2.2.2.2.2.2.2.2.2.2.1, k34, b1, bd_some, lt_eq, w_nat1 (by clear e2 e4; omega)]
      exact i1
    · have hS1 : tSt us fl bl z b xb M e i u (tDc z xb.lc.toNat M i u e.2.2.1 (k + 1) D) X W := by
        refine tSt_w hS (Or.inr fun j w hjw => ?_)
        rcases hjw with g | ⟨k', y', g1, g2, g3, g4, g5, g6⟩
        · exact Or.inl g
        · by_cases ck : k' = k
          · rw [ck, hy] at g3
            cases g3
            exact absurd ⟨g4, g5⟩ c
          · exact Or.inr ⟨k', y', g1, by omega, g3, g4, g5, g6⟩
      obtain ⟨S', X', W', c', i1, i2, i3, i4, i5⟩ := ih (k + 1) m X W ch S hv hm hS1 (by omega) (by omega) (by omega)
      refine ⟨S', X', W', c', ?_, i2, i3, i4, i5⟩
      show ja_X9_spreadTypes_b128 (ja_X9_spreadTypes_L128 m) 86 (i : Int) (b : Int) xb.lc (k : Int) S = _
      unfold ja_X9_spreadTypes_b128
      rw [if_pos (in_i (N := 48) (by omega)), hv.1, (jc_Qf hQ).2.2.2.2, (jc_Qb hQ).2.2.2.2.1, Int.toNat_natCast, (hE b e he).2.2.2, if_neg (by omega), c_cov hQ hK hy h64, bd_some, decide_eq_false c, if_pos (show bi false = 0 from rfl), lt_eq, w_nat1 (by omega)]
      exact i1
end CSP
