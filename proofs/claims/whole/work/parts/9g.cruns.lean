/-! Which body runs: the class's rows. -/
def rnS (us : List Int) (bl : List jB) (c : Nat) (x : jB) : Int := if anc us c x.ow = true then bdL us c x.nm bl 0 (-1) else -1
section RUN
variable {us : List Int} {bl : List jB}
theorem bdL_app {c : Nat} {n : List Int} : ∀ (l k : List jB) (i : Nat) (f : Int), bdL us c n (l ++ k) i f = bdL us c n k (i + l.length) (bdL us c n l i f) := by
  intro l
  induction l with
  | nil => intro k i f; rfl
  | cons x l ih =>
    intro k i f
    rw [List.cons_append, bdL, bdL, ih, List.length_cons, show i + 1 + l.length = i + (l.length + 1) by omega]
theorem bdL_cut {c : Nat} {n : List Int} {e : Nat} (h : ∀ k x, e ≤ k → bl[k]? = some x → ¬ (x.nm = n ∧ anc us c x.ow = true)) : bdL us c n (bl.take e) 0 (-1) = bdL us c n bl 0 (-1) := by
  conv => rhs; rw [← List.take_append_drop e bl]
  rw [bdL_app, bdL_no (bl.drop e)]
  intro x hx hc
  obtain ⟨k, hk, e2⟩ := List.mem_iff_getElem.mp hx
  refine h (e + k) x (by omega) ?_ hc
  rw [List.length_drop] at hk
  rw [List.getElem_drop] at e2
  rw [List.getElem?_eq_getElem (by omega), e2]
theorem bdL_one {c : Nat} {n : List Int} {b : Nat} {x : jB} (hx : bl[b]? = some x) : bdL us c n (bl.take (b + 1)) 0 (-1) = if x.nm = n ∧ anc us c x.ow = true then (b : Int) else bdL us c n (bl.take b) 0 (-1) := by
  have hb := at_lt hx
  rw [List.take_add_one, hx, bdL_app]
  show (if x.nm = n ∧ anc us c x.ow = true then ((0 + (bl.take b).length : Nat) : Int) else bdL us c n (bl.take b) 0 (-1)) = _
  rw [List.length_take, Nat.min_eq_left (by omega), Nat.zero_add]
end RUN
theorem w_48 {c k : Nat} (hc : c < 32) (hk : k < 48) : nk_w (nk_w ((c : Int) * 48) + (k : Int)) = ((c * 48 + k : Nat) : Int) := by
  rw [show (c : Int) * 48 = ((c * 48 : Nat) : Int) by omega, w_n0 (by omega), show ((c * 48 : Nat) : Int) + (k : Int) = ((c * 48 + k : Nat) : Int) by omega]
  exact w_n0 (by omega)
section CRU
variable {tx : List (List Int)} {Q c : Nat} {ns : List (List Int)} {us : List Int} {bl : List jB}
/-- what fillRuns looks at -/
def cRu (S : nk_S) (Q c : Nat) (ns : List (List Int)) (us : List Int) (bl : List jB) : Prop := cC S Q c ns us ∧ S.1 (Q + 9) 0 = (bl.length : Int) ∧ ∀ (b : Nat) (x : jB), bl[b]? = some x → S.1 (Q + 10) b = (x.ow : Int) ∧ ∃ w : Nat, w < c ∧ S.1 (Q + 11) b = (w : Int) ∧ wd S w = x.nm
theorem cRu_c {S S' : nk_S} (hQ : Q = 13 ∨ Q = 49) (h : ∀ d, d ≠ Q + 22 → S'.1 d = S.1 d) (hR : cRu S Q c ns us bl) : cRu S' Q c ns us bl := by
  have wd' : ∀ w, wd S' w = wd S w := fun w => wd_congr (h 3 (by omega)) (by rw [h 5 (by omega)]) (by rw [h 6 (by omega)])
  obtain ⟨h1, h2, h3⟩ := hR
  refine ⟨cC_c (by rw [h (Q + 1) (by omega)]) (h (Q + 2) (by omega)) (h (Q + 3) (by omega)) (fun v _ _ => by rw [h 10 (by omega)]) wd' h1, by rw [h (Q + 9) (by omega)]; exact h2, fun b x hx => ?_⟩
  rw [h (Q + 10) (by omega), h (Q + 11) (by omega)]
  obtain ⟨y1, w, y2, y3, y4⟩ := h3 b x hx
  exact ⟨y1, w, y2, y3, by rw [wd']; exact y4⟩
theorem c_repL (hQ : Q = 13 ∨ Q = 49) (hu : uOk us) {j b : Nat} {x : jB} (hbl : bl.length ≤ 48) (hOw : ∀ (b : Nat) (x : jB), bl[b]? = some x → x.ow < us.length) (hj : j < ns.length) (hx : bl[b]? = some x) : ∀ (e k m : Nat) (S : nk_S), CF S tx c → cRu S Q c ns us bl → k + e = b + 1 → e < m → ∃ S', ja_X0_replaceRuns_L3 m (Q + 9) (Q + 1) (j : Int) (b : Int) (k : Int) S = some (0, S') ∧ S'.2 = S.2 ∧ (∀ d, d ≠ Q + 22 → S'.1 d = S.1 d) ∧ (∀ i, i < j * 48 ∨ j * 48 + 48 ≤ i → S'.1 (Q + 22) i = S.1 (Q + 22) i) ∧ ∀ i y, i < 48 → bl[i]? = some y → S'.1 (Q + 22) (j * 48 + i) = if k ≤ i ∧ i ≤ b ∧ y.nm = x.nm ∧ anc us j y.ow = true then (b : Int) else S.1 (Q + 22) (j * 48 + i) := by
  have hb := at_lt hx
  intro e
  induction e with
  | zero =>
    intro k m S hC hR h1 h2
    obtain ⟨m, rfl⟩ : ∃ q, m = q + 1 := ⟨m - 1, by omega⟩
    refine ⟨S, ?_, rfl, fun _ _ => rfl, fun _ _ => rfl, fun i y _ _ => by rw [if_neg (by omega)]⟩
    show ja_X0_replaceRuns_b3 (ja_X0_replaceRuns_L3 m) (Q + 9) (Q + 1) (j : Int) (b : Int) (k : Int) S = _
    unfold ja_X0_replaceRuns_b3
    rw [if_pos (by omega)]
  | succ e ih =>
    intro k m S hC hR h1 h2
    obtain ⟨m, rfl⟩ : ∃ q, m = q + 1 := ⟨m - 1, by omega⟩
    obtain ⟨y, hy⟩ : ∃ y, bl[k]? = some y := ⟨bl[k]'(by omega), List.getElem?_eq_getElem (by omega)⟩
    obtain ⟨r1, r2, r3⟩ := hR
    have hns := r1.2.2.1
    have hul := r1.2.2.2.1
    obtain ⟨y1, w, y2, y3, y4⟩ := r3 k y hy
    obtain ⟨x1, v, x2, x3, x4⟩ := r3 b x hx
    have hyo := hOw k y hy
    have hstep : ja_X0_replaceRuns_L3 (m + 1) (Q + 9) (Q + 1) (j : Int) (b : Int) (k : Int) S = if w = v then (if anc us j y.ow = true then ja_X0_replaceRuns_L3 m (Q + 9) (Q + 1) (j : Int) (b : Int) ((k + 1 : Nat) : Int) (nk_wi S (Q + 22) (j * 48 + k) (b : Int)) else ja_X0_replaceRuns_L3 m (Q + 9) (Q + 1) (j : Int) (b : Int) ((k + 1 : Nat) : Int) S) else ja_X0_replaceRuns_L3 m (Q + 9) (Q + 1) (j : Int) (b : Int) ((k + 1 : Nat) : Int) S := by
      show ja_X0_replaceRuns_b3 (ja_X0_replaceRuns_L3 m) (Q + 9) (Q + 1) (j : Int) (b : Int) (k : Int) S = _
      have hin : (0 : Int) ≤ ((j * 48 + k : Nat) : Int) ∧ ((j * 48 + k : Nat) : Int) < 1536 := in_i (N := 1536) (by omega)
      unfold ja_X0_replaceRuns_b3
      rw [if_neg (by omega), if_pos (in_i (N := 48) (by omega)), if_pos (in_i (N := 48) (by omega)), (jc_Q9 hQ).2.1, (jc_Q9 hQ).1, Int.toNat_natCast, Int.toNat_natCast, y3, x3, y1]
      by_cases q : w = v
      · rw [if_pos (show (w : Int) = (v : Int) by omega), if_pos q, c_above hQ r1 hu hj (by omega), bd_some]
        cases h : anc us j y.ow with
        | false => rw [if_pos (show bi false = 0 from rfl), if_neg (by decide), lt_eq, w_nat1 (by omega)]
        | true => rw [if_neg (show ¬ bi true = 0 by decide), if_pos rfl, w_48 (by omega) (by omega), if_pos hin, lt_eq, lt_eq, (jc_Qb hQ).2.2.2.2.2, Int.toNat_natCast, w_nat1 (by omega)]
      · rw [if_neg (show ¬ (w : Int) = (v : Int) by omega), if_neg q, lt_eq, w_nat1 (by omega)]
    have hnm : w = v ↔ y.nm = x.nm := by
      constructor
      · intro h; rw [← y4, ← x4, h]
      · intro h; exact hC.2.2.2.2.2.2.1 w v y2 x2 (by rw [y4, x4, h])
    by_cases q : y.nm = x.nm ∧ anc us j y.ow = true
    · rw [if_pos (hnm.mpr q.1), if_pos q.2] at hstep
      obtain ⟨T, hT⟩ : ∃ T, T = nk_wi S (Q + 22) (j * 48 + k) (b : Int) := ⟨_, rfl⟩
      rw [← hT] at hstep
      have tn : ∀ d, d ≠ Q + 22 → T.1 d = S.1 d := fun d hd => by rw [hT]; exact wi_n hd
      have CT : CF T tx c := CF_c (tn 2 (by omega)) (tn 3 (by omega)) (tn 4 (by omega)) (tn 5 (by omega)) (tn 6 (by omega)) (tn 9 (by omega)) hC
      obtain ⟨S', i1, i2, i3, i4, i5⟩ := ih (k + 1) m T CT (cRu_c hQ tn ⟨r1, r2, r3⟩) (by omega) (by omega)
      refine ⟨S', by rw [hstep]; exact i1, by rw [i2, hT]; rfl, fun d hd => by rw [i3 d hd, tn d hd], fun i hi => by rw [i4 i hi, hT, wi_at, if_neg (by omega)], fun i z hi hz => ?_⟩
      rw [i5 i z hi hz, hT, wi_at]
      by_cases e : i = k
      · subst e
        rw [hy] at hz
        cases hz
        rw [if_neg (by omega), if_pos rfl, if_pos ⟨Nat.le_refl _, by omega, q.1, q.2⟩]
      · rw [if_neg (show ¬ j * 48 + i = j * 48 + k by omega)]
        by_cases e2 : k + 1 ≤ i ∧ i ≤ b ∧ z.nm = x.nm ∧ anc us j z.ow = true
        · rw [if_pos e2, if_pos ⟨by omega, e2.2⟩]
        · rw [if_neg e2, if_neg (fun h => e2 ⟨by omega, h.2⟩)]
    · have hst : ja_X0_replaceRuns_L3 (m + 1) (Q + 9) (Q + 1) (j : Int) (b : Int) (k : Int) S = ja_X0_replaceRuns_L3 m (Q + 9) (Q + 1) (j : Int) (b : Int) ((k + 1 : Nat) : Int) S := by
        rw [hstep]
        by_cases c1 : w = v
        · rw [if_pos c1, if_neg (fun h => q ⟨hnm.mp c1, h⟩)]
        · rw [if_neg c1]
      obtain ⟨S', i1, i2, i3, i4, i5⟩ := ih (k + 1) m S hC ⟨r1, r2, r3⟩ (by omega) (by omega)
      refine ⟨S', by rw [hst]; exact i1, i2, i3, i4, fun i z hi hz => ?_⟩
      rw [i5 i z hi hz]
      by_cases e : i = k
      · subst e
        rw [hy] at hz
        cases hz
        rw [if_neg (by omega), if_neg (fun h => q h.2.2)]
      · by_cases e2 : k + 1 ≤ i ∧ i ≤ b ∧ z.nm = x.nm ∧ anc us j z.ow = true
        · rw [if_pos e2, if_pos ⟨by omega, e2.2⟩]
        · rw [if_neg e2, if_neg (fun h => e2 ⟨by omega, h.2⟩)]
/-- the row of a class while its bodies are gone through -/
def rnI (us : List Int) (bl : List jB) (c b i : Nat) (x : jB) : Int := if i < b ∧ anc us c x.ow = true then bdL us c x.nm (bl.take b) 0 (-1) else -1
theorem c_runI (hQ : Q = 13 ∨ Q = 49) (hu : uOk us) (h32 : us.length ≤ 32) {j : Nat} (hO : bOk us bl) (hj : j < ns.length) (hju : j < us.length) {rec13 : Nat → Nat → Int → Int → nk_S → Option (Int × nk_S)} : ∀ (e b m : Nat) (S : nk_S), CF S tx c → cRu S Q c ns us bl → b + e = bl.length → e < m → (∀ i x, bl[i]? = some x → b ≤ i → j ≤ x.ow) → (∀ i x, bl[i]? = some x → i < b → x.ow ≤ j) → (∀ i x, bl[i]? = some x → S.1 (Q + 22) (j * 48 + i) = rnI us bl j b i x) → ∃ (S' : nk_S) (b' : Nat), ja_X0_fillRuns_L46 rec13 m (Q + 9) (Q + 1) (b : Int) (j : Int) S = rec13 (Q + 9) (Q + 1) (b' : Int) ((j + 1 : Nat) : Int) S' ∧ b' ≤ bl.length ∧ S'.2 = S.2 ∧ (∀ d, d ≠ Q + 22 → S'.1 d = S.1 d) ∧ (∀ i, i < j * 48 ∨ j * 48 + 48 ≤ i → S'.1 (Q + 22) i = S.1 (Q + 22) i) ∧ (∀ i x, bl[i]? = some x → b' ≤ i → j + 1 ≤ x.ow) ∧ (∀ i x, bl[i]? = some x → i < b' → x.ow < j + 1) ∧ ∀ i x, bl[i]? = some x → S'.1 (Q + 22) (j * 48 + i) = rnS us bl j x := by
  obtain ⟨o1, o2, o3⟩ := hO
  -- the end of a class
  have hfin : ∀ b : Nat, (∀ i x, bl[i]? = some x → b ≤ i → j < x.ow) → (∀ i x, bl[i]? = some x → i < b → x.ow ≤ j) → ∀ i x, bl[i]? = some x → rnI us bl j b i x = rnS us bl j x := by
    intro b h1 h2 i x hx
    unfold rnI rnS
    rw [bdL_cut (fun k y hk hy hc => by
      have e1 := h1 k y hy hk
      have e2 := anc_le hu h32 _ j y.ow (Nat.lt_succ_self j) hju hc.2
      omega)]
    by_cases q : anc us j x.ow = true
    · have e2 := anc_le hu h32 _ j x.ow (Nat.lt_succ_self j) hju q
      have : i < b := by
        by_cases c : i < b
        · exact c
        · have := h1 i x hx (by omega); omega
      rw [if_pos ⟨this, q⟩, if_pos q]
    · rw [if_neg (fun h => q h.2), if_neg q]
  intro e
  induction e with
  | zero =>
    intro b m S hC hR h1 h2 ha hb hv
    obtain ⟨m, rfl⟩ : ∃ q, m = q + 1 := ⟨m - 1, by omega⟩
    have hns := hR.1.2.2.1
    refine ⟨S, b, ?_, by omega, rfl, fun _ _ => rfl, fun _ _ => rfl, fun i x hx hi => ?_, fun i x hx hi => ?_, fun i x hx => ?_⟩
    · show ja_X0_fillRuns_b46 rec13 (ja_X0_fillRuns_L46 rec13 m) (Q + 9) (Q + 1) (b : Int) (j : Int) S = _
      unfold ja_X0_fillRuns_b46
      rw [hR.2.1, if_pos (by omega), lt_eq, w_nat1 (by omega)]
    · have := at_lt hx; omega
    · have := hb i x hx hi; omega
    · rw [hv i x hx, hfin b (fun i x hx hi => by have := at_lt hx; omega) hb i x hx]
  | succ e ih =>
    intro b m S hC hR h1 h2 ha hb hv
    obtain ⟨m, rfl⟩ : ∃ q, m = q + 1 := ⟨m - 1, by omega⟩
    have hns := hR.1.2.2.1
    obtain ⟨x, hx⟩ : ∃ x, bl[b]? = some x := ⟨bl[b]'(by omega), List.getElem?_eq_getElem (by omega)⟩
    have hstep : ja_X0_fillRuns_L46 rec13 (m + 1) (Q + 9) (Q + 1) (b : Int) (j : Int) S = if x.ow = j then nk_bd (ja_X0_replaceRuns (Q + 9) (Q + 1) (j : Int) (b : Int) S) fun r7 S8 => ja_X0_fillRuns_L46 rec13 m (Q + 9) (Q + 1) ((b + 1 : Nat) : Int) (j : Int) S8 else rec13 (Q + 9) (Q + 1) (b : Int) ((j + 1 : Nat) : Int) S := by
      show ja_X0_fillRuns_b46 rec13 (ja_X0_fillRuns_L46 rec13 m) (Q + 9) (Q + 1) (b : Int) (j : Int) S = _
      unfold ja_X0_fillRuns_b46
      rw [hR.2.1, if_neg (by omega), if_pos (in_i (N := 48) (by omega)), (jc_Q9 hQ).1, Int.toNat_natCast, (hR.2.2 b x hx).1]
      by_cases q : x.ow = j
      · rw [if_pos (show (x.ow : Int) = (j : Int) by omega), if_pos q]
        have : nk_w ((b : Int) + 1) = ((b + 1 : Nat) : Int) := w_nat1 (by omega)
        rw [this]
        rfl
      · rw [if_neg (show ¬ (x.ow : Int) = (j : Int) by omega), if_neg q, lt_eq, w_nat1 (by omega)]
    by_cases q : x.ow = j
    · rw [if_pos q] at hstep
      obtain ⟨bm, hbm⟩ := big_ge 100 (by decide)
      obtain ⟨T, t1, t2, t3, t4, t5⟩ := c_repL hQ hu (j := j) o1 o2 hj hx (b + 1) 0 nk_big S hC hR (by omega) (by omega)
      have t1' : ja_X0_replaceRuns (Q + 9) (Q + 1) (j : Int) (b : Int) S = some (0, T) := t1
      rw [t1', bd_some] at hstep
      have CT : CF T tx c := CF_c (t3 2 (by omega)) (t3 3 (by omega)) (t3 4 (by omega)) (t3 5 (by omega)) (t3 6 (by omega)) (t3 9 (by omega)) hC
      have hv' : ∀ i y, bl[i]? = some y → T.1 (Q + 22) (j * 48 + i) = rnI us bl j (b + 1) i y := by
        intro i y hy
        have hi := at_lt hy
        rw [t5 i y (by omega) hy, hv i y hy]
        unfold rnI
        rw [bdL_one hx]
        by_cases c1 : i ≤ b
        · by_cases c2 : y.nm = x.nm ∧ anc us j y.ow = true
          · rw [if_pos ⟨by omega, c1, c2⟩, if_pos ⟨by omega, c2.2⟩, if_pos ⟨c2.1.symm, by rw [q]; exact anc_self j⟩]
          · rw [if_neg (fun h => c2 h.2.2)]
            by_cases c3 : anc us j y.ow = true
            · have c4 : ¬ y.nm = x.nm := fun h => c2 ⟨h, c3⟩
              have c5 : i < b := by
                by_cases c6 : i = b
                · subst c6
                  rw [hx] at hy
                  cases hy
                  exact absurd rfl c4
                · omega
              rw [if_pos ⟨c5, c3⟩, if_pos ⟨by omega, c3⟩, if_neg (fun h => c4 h.1.symm)]
            · rw [if_neg (fun h => c3 h.2), if_neg (fun h => c3 h.2)]
        · rw [if_neg (fun h => c1 h.2.1), if_neg (by omega), if_neg (by omega)]
      obtain ⟨S', b', i1, i0, i2, i3, i4, i5, i6, i7⟩ := ih (b + 1) m T CT (cRu_c hQ t3 hR) (by omega) (by omega) (fun i y hy hi => ha i y hy (by omega)) (fun i y hy hi => by
        by_cases c1 : i = b
        · subst c1
          rw [hx] at hy
          cases hy
          omega
        · exact hb i y hy (by omega)) hv'
      exact ⟨S', b', by rw [hstep]; exact i1, i0, i2.trans t2, fun d hd => by rw [i3 d hd, t3 d hd], fun i hi => by rw [i4 i hi, t4 i hi], i5, i6, i7⟩
    · rw [if_neg q] at hstep
      have hup : ∀ i y, bl[i]? = some y → b ≤ i → j < y.ow := by
        intro i y hy hi
        have h0 := ha b x hx (Nat.le_refl b)
        by_cases c1 : i = b
        · subst c1
          rw [hx] at hy
          cases hy
          omega
        · have := (o3 b i x y (by omega) hx hy).1
          omega
      exact ⟨S, b, hstep, by omega, rfl, fun _ _ => rfl, fun _ _ => rfl, fun i y hy hi => hup i y hy hi, fun i y hy hi => by have := hb i y hy hi; omega, fun i y hy => by rw [hv i y hy, hfin b hup hb i y hy]⟩
end CRU
