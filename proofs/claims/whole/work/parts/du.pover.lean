/-! Bodies that run for one another are alike. -/
def bI (us : List Int) (bl : List jB) : Prop := ∀ (b : Nat) (y : jB), bl[b]? = some y → badB us (bl.take b) y = false
section POV
variable {tx ns : List (List Int)} {us : List Int} {bl : List jB}
theorem bI_add {n : jB} (h : bI us bl) (hb : badB us bl n = false) : bI us (bl ++ [n]) := by
  intro b y hy
  rcases fl_case hy with ⟨q1, q2⟩ | ⟨q1, q2⟩
  · rw [List.take_append_of_le_length (by omega)]
    exact h b y q2
  · rw [q1, q2, List.take_append_of_le_length (Nat.le_refl _), List.take_length]
    exact hb
theorem bStep_I {c a : Nat} (h : bI us bl) (hn : (bStep tx ns us c a bl).1 = none) : bI us (bStep tx ns us c a bl).2 := by
  unfold bStep at hn ⊢
  split at hn
  · cases hn
  rename_i c1
  rw [if_neg c1]
  split at hn
  · cases hn
  rename_i c2
  rw [if_neg c2]
  split at hn
  · cases hn
  rename_i c3
  rw [if_neg c3]
  split at hn
  · cases hn
  rename_i c4
  rw [if_neg c4]
  split at hn
  · cases hn
  rename_i c5
  rw [if_neg c5]
  exact bI_add h (nf_t c2)
theorem fMem_I {c : Nat} : ∀ (d a : Nat) (fl : List (List Int × Nat × Int)) (bl : List jB), bI us bl → (fMem tx ns us c d a fl bl).1 = none → bI us (fMem tx ns us c d a fl bl).2.2 := by
  intro d
  induction d with
  | zero => intro a fl bl h _; exact h
  | succ d ih =>
    intro a fl bl h hn
    rw [fMem] at hn ⊢
    by_cases h58 : fW tx 58 a = true
    · rw [if_pos h58]; exact h
    · rw [if_neg h58] at hn ⊢
      by_cases h49 : fW tx 49 a = true
      · rw [if_pos h49] at hn ⊢
        cases hs : fStep tx ns us c a fl with
        | mk r l =>
          rw [hs] at hn
          cases r with
          | some y => cases hn
          | none => exact ih _ l bl h hn
      · rw [if_neg h49] at hn ⊢
        cases hs : bStep tx ns us c a bl with
        | mk r l =>
          rw [hs] at hn
          cases r with
          | some y => cases hn
          | none =>
            have := bStep_I (tx := tx) (ns := ns) (c := c) (a := a) h (by rw [hs])
            rw [hs] at this
            exact ih _ fl l this hn
theorem fMcs_I : ∀ (d c : Nat) (fl : List (List Int × Nat × Int)) (bl : List jB), bI us bl → (fMcs tx ns us d c fl bl).1 = none → bI us (fMcs tx ns us d c fl bl).2.2 := by
  intro d
  induction d with
  | zero => intro c fl bl h _; exact h
  | succ d ih =>
    intro c fl bl h hn
    rw [fMcs] at hn ⊢
    by_cases h1 : ns.length ≤ c
    · rw [if_pos h1]; exact h
    · rw [if_neg h1] at hn ⊢
      cases hs : fMem tx ns us c 20000 (cAt tx (c - 8) + 5) fl bl with
      | mk r q =>
        obtain ⟨l, k⟩ := q
        rw [hs] at hn
        cases r with
        | some y => cases hn
        | none =>
          have := fMem_I (tx := tx) (ns := ns) (c := c) 20000 (cAt tx (c - 8) + 5) fl bl h (by rw [hs])
          rw [hs] at this
          exact ih _ l k this hn
/-- the last body of a name that is seen -/
theorem bdL_last {c : Nat} {n : List Int} : ∀ (l : List jB) (i : Nat) (f : Int), (bdL us c n l i f = f ∧ ∀ (k : Nat) (x : jB), l[k]? = some x → ¬ (x.nm = n ∧ anc us c x.ow = true)) ∨ ∃ (k : Nat) (x : jB), bdL us c n l i f = ((i + k : Nat) : Int) ∧ l[k]? = some x ∧ x.nm = n ∧ anc us c x.ow = true ∧ ∀ (k' : Nat) (x' : jB), k < k' → l[k']? = some x' → ¬ (x'.nm = n ∧ anc us c x'.ow = true) := by
  intro l
  induction l with
  | nil => intro i f; exact Or.inl ⟨rfl, fun k x h => by cases h⟩
  | cons a l ih =>
    intro i f
    rw [bdL]
    rcases ih (i + 1) (if a.nm = n ∧ anc us c a.ow = true then (i : Int) else f) with ⟨h1, h2⟩ | ⟨k, x, h1, h2, h3, h4, h5⟩
    · by_cases q : a.nm = n ∧ anc us c a.ow = true
      · rw [if_pos q] at h1
        refine Or.inr ⟨0, a, by rw [if_pos q, h1]; rfl, rfl, q.1, q.2, fun k' x' hk hx => ?_⟩
        obtain ⟨m, rfl⟩ : ∃ m, k' = m + 1 := ⟨k' - 1, by omega⟩
        exact h2 m x' hx
      · rw [if_neg q] at h1
        refine Or.inl ⟨by rw [if_neg q]; exact h1, fun k x hx => ?_⟩
        cases k with
        | zero => cases hx; exact q
        | succ m => exact h2 m x hx
    · refine Or.inr ⟨k + 1, x, by rw [h1]; congr 1; omega, h2, h3, h4, fun k' x' hk hx => ?_⟩
      obtain ⟨m, rfl⟩ : ∃ m, k' = m + 1 := ⟨k' - 1, by omega⟩
      exact h5 m x' (by omega) hx
def likeB (o n : jB) : Prop := o.me = true ∧ n.me = true ∧ n.ps.length = o.ps.length ∧ n.rs = o.rs ∧ n.ps.drop 1 = o.ps.drop 1
/-- a body that is seen from another's class is like it -/
theorem like_b (hu : uOk us) (h32 : us.length ≤ 32) (hb : bOk us bl) (hI : bI us bl) : ∀ (b f : Nat) (y y' : jB), f ≤ b → bl[f]? = some y → bl[b]? = some y' → y.nm = y'.nm → anc us y'.ow y.ow = true → y.me = true → likeB y y' := by
  intro b
  induction b using Nat.strongRecOn with
  | ind b ih =>
    intro f y y' hfb hf hb' hnm hanc hme
    by_cases e : f = b
    · rw [e, hb'] at hf
      cases hf
      exact ⟨hme, hme, rfl, rfl, rfl⟩
    · have hbad := hI b y' hb'
      have hlt := at_lt hb'
      unfold badB at hbad
      have hft : (bl.take b)[f]? = some y := by rw [List.getElem?_take_of_lt (by omega)]; exact hf
      rcases bdL_last (us := us) (c := y'.ow) (n := y'.nm) (bl.take b) 0 (-1) with ⟨h1, h2⟩ | ⟨k, o, h1, h2, h3, h4, h5⟩
      · exact absurd ⟨hnm, hanc⟩ (h2 f y hft)
      · have hk : k < b := by
          have := at_lt h2
          rw [List.length_take] at this
          omega
        have ho : bl[k]? = some o := by rw [List.getElem?_take_of_lt hk] at h2; exact h2
        rw [h1, if_neg (by omega)] at hbad
        have e1 : (((0 + k : Nat) : Int)).toNat = k := by omega
        rw [e1, h2] at hbad
        have hbad : (!mayB o y') = false := hbad
        have hmay : mayB o y' = true := by
          cases hq : mayB o y' with
          | true => rfl
          | false => rw [hq] at hbad; cases hbad
        unfold mayB at hmay
        obtain ⟨m1, m2, m3, m4, m5, m6⟩ := of_decide_eq_true hmay
        have hfk : f ≤ k := by
          by_cases q : f ≤ k
          · exact q
          · exact absurd ⟨hnm, hanc⟩ (h5 f y (by omega) hft)
        have hle : y.ow ≤ o.ow := by
          by_cases q : f = k
          · rw [q, ho] at hf; cases hf; exact Nat.le_refl _
          · exact (hb.2.2 f k y o (by omega) hf ho).1
        have hyo : anc us o.ow y.ow = true := anc_row hu h32 us.length y'.ow y.ow o.ow (hb.2.1 b y' hb') (hb.2.1 b y' hb') hanc h4 hle
        obtain ⟨l1, l2, l3, l4, l5⟩ := ih k hk f y o hfk hf ho (by rw [h3]; exact hnm) hyo hme
        exact ⟨hme, m3, by omega, by rw [← m5, l4], by rw [← m6, l5]⟩
theorem p_ov (hu : uOk us) (h32 : us.length ≤ 32) (hb : bOk us bl) (hI : bI us bl) (ht : bTx tx ns bl) : pOv us bl := by
  intro c f b y hc hf hme hrn
  unfold rnS at hrn
  split at hrn
  · rename_i hanc
    rcases bdL_last (us := us) (c := c) (n := y.nm) bl 0 (-1) with ⟨h1, h2⟩ | ⟨k, o, h1, h2, h3, h4, h5⟩
    · exact absurd ⟨rfl, hanc⟩ (h2 f y hf)
    · have hk : k = b := by rw [h1] at hrn; omega
      subst hk
      have hfk : f ≤ k := by
        by_cases q : f ≤ k
        · exact q
        · exact absurd ⟨rfl, hanc⟩ (h5 f y (by omega) hf)
      have hle : y.ow ≤ o.ow := by
        by_cases q : f = k
        · rw [q, h2] at hf; cases hf; exact Nat.le_refl _
        · exact (hb.2.2 f k y o (by omega) hf h2).1
      have hyo : anc us o.ow y.ow = true := anc_row hu h32 us.length c y.ow o.ow hc hc hanc h4 hle
      obtain ⟨l1, l2, l3, l4, l5⟩ := like_b hu h32 hb hI k f y o hfk hf h2 h3.symm hyo hme
      refine ⟨o, h2, l2, l3, l4, l5, h4, ?_⟩
      obtain ⟨e, -⟩ := ht o (List.mem_of_getElem? h2)
      have hm : fW tx 51 o.tk = true := by rw [e] at l2; exact l2
      rw [e]
      show ((if fW tx 51 o.tk = true then [((4 + 2 * o.ow : Nat) : Int)] else []) ++ _)[0]? = some (4 + 2 * (o.ow : Int))
      rw [if_pos hm]
      show some ((4 + 2 * o.ow : Nat) : Int) = _
      congr 1
  · omega
end POV
/-- what is true of the program of a text -/
theorem p_more {tx : List (List Int)} (h : (fProg tx 20000 20000 0).1 = true) (hr : rsv tx = none) (hok : pOk tx (pgm tx)) : zN (pgm tx).1 (pgm tx).2.2.2.2.1 ∧ bI (pgm tx).2.1 (pgm tx).2.2.2.1 := by
  have h32 := hok.2.2.2.1
  have hend := fCls_end (tx := tx) 20000 0 kC8 us8 h (by rw [kC8_len]; rfl) (by rw [kC8_len]; omega)
  unfold rsv at hr
  unfold pgm at h32 ⊢
  obtain ⟨R1, hR1⟩ : ∃ R1, R1 = fCls tx 20000 0 kC8 us8 := ⟨_, rfl⟩
  rw [← hR1] at hr hend h32 ⊢
  obtain ⟨r1, ns, us⟩ := R1
  cases r1 with
  | some y => cases hr
  | none =>
    dsimp only at hr hend h32 ⊢
    obtain ⟨e1, e2, e3⟩ := hend rfl
    rw [kC8_len] at e2 e3
    have hcl : ∀ k, k < ns.length - 8 → clsK tx (cAt tx k) := fun k hk => e3 k (by omega) hk
    have hpos := fMcs_pos (tx := tx) (ns := ns) (us := us) hcl 64 8 [] [] (by omega) ⟨fun x hx => (by cases hx), fun a b x y _ hx => by cases hx⟩
    have hbI := fMcs_I (tx := tx) (ns := ns) (us := us) 64 8 [] [] (fun b y hy => by cases hy)
    obtain ⟨R2, hR2⟩ : ∃ R2, R2 = fMcs tx ns us 64 8 [] [] := ⟨_, rfl⟩
    rw [← hR2] at hr hpos hbI ⊢
    obtain ⟨r2, fl, bl⟩ := R2
    cases r2 with
    | some y => cases hr
    | none =>
      dsimp only at hr hpos hbI ⊢
      obtain ⟨pp, hpp⟩ := hpos rfl
      have hw := fLn_n (us := us) (fl := fl) h32 hpp 64 0 ([], [], [], []) [] ⟨fun t ht => (by cases ht), fun v hv => (by cases hv), fun x hx => by cases hx⟩
      obtain ⟨R3, hR3⟩ : ∃ R3, R3 = fLn tx ns us fl bl 64 0 ([], [], [], []) [] := ⟨_, rfl⟩
      rw [← hR3] at hr hw ⊢
      obtain ⟨r3, z, el⟩ := R3
      cases r3 with
      | some y => cases hr
      | none => exact ⟨hw rfl, hbI rfl⟩
