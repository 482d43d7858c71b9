/-! load: cutting and form, both sides. -/
theorem lx_len {b : Nat → Int} : ∀ (d k : Nat) (o : Option Nat) (r : Bool) (ts : List (Nat × Nat)), ts.length + ol o ≤ k → (lx b d k o r ts).2.length ≤ k + d := by
  have hcl : ∀ (k : Nat) (o : Option Nat) (ts : List (Nat × Nat)), ts.length + ol o ≤ k → (lx_cl o k ts).length ≤ k := by
    intro k o ts h
    cases o with
    | none => exact h
    | some f => simp only [lx_cl, List.length_append, List.length_cons, List.length_nil]; exact h
  intro d
  induction d with
  | zero => intro k o r ts h; exact hcl k o ts h
  | succ d ih =>
    intro k o r ts h
    have h2 := hcl k o ts h
    rw [lx]
    split
    · split
      · have := ih (k + 1) (lx_op o k) (lx_rem r (b k)) ts (by
          cases o with
          | none => show ts.length + 1 ≤ k + 1; have : ts.length + 0 ≤ k := h; omega
          | some f => show ts.length + 1 ≤ k + 1; have : ts.length + 1 ≤ k := h; omega)
        omega
      · split
        · have := ih (k + 1) none (lx_rem r (b k)) (lx_cl o k ts ++ [(k, k + 1)]) (by
            show (lx_cl o k ts ++ [(k, k + 1)]).length + 0 ≤ k + 1
            simp only [List.length_append, List.length_cons, List.length_nil]
            omega)
          omega
        · have := ih (k + 1) none (lx_rem r (b k)) (lx_cl o k ts) (by
            show (lx_cl o k ts).length + 0 ≤ k + 1
            omega)
          omega
    · show (lx_cl o k ts).length ≤ k + (d + 1)
      omega
/-- the text's length, its cut, its tokens -/
def tN (S : nk_S) : Nat := (S.1 121 7).toNat
def tL (S : nk_S) : Bool × List (Nat × Nat) := lx (fun k => S.1 3 (360 + k)) (tN S) 0 none false []
def tX (S : nk_S) : List (List Int) := (tL S).2.map fun q => sg (S.1 3) (360 + q.1) (360 + q.2)
theorem tN_i {S : nk_S} (h : io_t S) : S.1 121 7 = (tN S : Int) ∧ tN S ≤ 16000 ∧ S.1 2 2 = ((360 + tN S : Nat) : Int) ∧ ∀ k, k < tN S → S.1 3 (360 + k) = S.1 215 k := by
  obtain ⟨h1, h2, h3, h4, h5⟩ := h
  unfold tN
  refine ⟨by omega, by omega, by rw [h2]; omega, fun k hk => (h5 k (by omega)).1⟩
theorem tL_len {S : nk_S} : (tL S).2.length ≤ tN S := by
  have := lx_len (b := fun k => S.1 3 (360 + k)) (tN S) 0 none false [] (Nat.le_refl 0)
  rw [Nat.zero_add] at this
  exact this
theorem tL_good {S : nk_S} : ∀ q ∈ (tL S).2, q.1 < q.2 ∧ q.2 ≤ tN S := lx_good (n := tN S) (tN S) 0 none false [] (by omega) (fun q hq => by cases hq) (fun f e => by cases e)
theorem CF_of {g : Nat → Int} {S : nk_S} {ts : List (Nat × Nat)} {c : Nat} (h : CW g S ts c) (hT : ts.length ≤ 16000) : CF S (ts.map fun q => sg g (360 + q.1) (360 + q.2)) c := by
  obtain ⟨⟨w1, w2, w3, w4, w5, w6⟩, h2, h3, h4, h5, h6, h7⟩ := h
  refine ⟨w1, h2, w2, by rw [List.length_map]; exact h4, by rw [List.length_map]; exact hT, fun i l hl => ?_, w4, h6, fun v hv => (h7 v hv).1⟩
  rw [List.getElem?_map] at hl
  cases hq : ts[i]? with
  | none => rw [hq] at hl; cases hl
  | some q =>
    rw [hq] at hl
    obtain ⟨w, e1, e2, e3⟩ := h5 i q hq
    exact ⟨w, e1, e2, e3.trans (Option.some.inj hl)⟩
theorem MW_of {S : nk_S} {n : Nat} {ts : List (Nat × Nat)} (hn : n ≤ 16000) (h : mc_R S n none ts) (hT : ts.length ≤ n) (hg : ∀ q ∈ ts, q.1 < q.2 ∧ q.2 ≤ n) {g : Nat → Int} (he : ∀ k, k < n → g (360 + k) = S.1 215 k) : MW S (ts.map fun q => sg g (360 + q.1) (360 + q.2)) := by
  obtain ⟨h1, h2, -⟩ := h
  refine ⟨by rw [List.length_map]; exact h1, by rw [List.length_map]; omega, fun i l hl => ?_⟩
  rw [List.getElem?_map] at hl
  cases hq : ts[i]? with
  | none => rw [hq] at hl; cases hl
  | some q =>
    rw [hq] at hl
    obtain ⟨e1, e2⟩ := h2 i q hq
    obtain ⟨g1, g2⟩ := hg q (List.mem_of_getElem? hq)
    refine ⟨q.1, q.2, e1, e2, g1, by omega, ?_⟩
    rw [← Option.some.inj hl]
    refine sg_eq.mpr ⟨by omega, fun i hi => ?_⟩
    rw [show 360 + q.1 + i = 360 + (q.1 + i) by omega]
    exact (he _ (by omega)).symm
/-- the class's cells that cutting and form change -/
def c_fr (S S' : nk_S) : Prop := S'.2 = S.2 ∧ (∀ a, a ≠ 0 → a ≠ 2 → a ≠ 4 → a ≠ 5 → a ≠ 6 → a ≠ 7 → a ≠ 8 → a ≠ 9 → a ≠ 10 → a ≠ 11 → a ≠ 85 → S'.1 a = S.1 a) ∧ (∀ i, i ≠ 7 → S'.1 0 i = S.1 0 i) ∧ (∀ i, i ≠ 2 → S'.1 85 i = S.1 85 i) ∧ jv_words S' ∧ S'.1 2 2 = 360
theorem c_front {S : nk_S} (hW : jv_words S) (ht : io_t S) : ((tL S).1 = false → ∃ S', ja_X11_load 0 S = some (1, S') ∧ S'.1 0 7 = ((tL S).2.length : Int) ∧ c_fr S S') ∧ ((tL S).1 = true → (fProg (tX S) 20000 20000 0).1 = false → ∃ S', ja_X11_load 0 S = some (2, S') ∧ S'.1 0 7 = ((fProg (tX S) 20000 20000 0).2 : Int) ∧ c_fr S S') ∧ ((tL S).1 = true → (fProg (tX S) 20000 20000 0).1 = true → ∃ S' c, ja_X11_load 0 S = ja_X11_load_b58 0 0 S' ∧ CW (S.1 3) S' (tL S).2 c ∧ CF S' (tX S) c ∧ S'.1 0 7 = -1 ∧ c_fr S S') := by
  obtain ⟨n1, n2, n3, n4⟩ := tN_i ht
  have hlen := tL_len (S := S)
  obtain ⟨S1, hS1⟩ : ∃ S1, S1 = nk_wi S 0 7 (-1) := ⟨_, rfl⟩
  have s3 : S1.1 3 = S.1 3 := by rw [hS1, wi_n (by decide)]
  have sn : ∀ a, a ≠ 0 → S1.1 a = S.1 a := fun a ha => by rw [hS1]; exact wi_n ha
  have s0 : ∀ i, i ≠ 7 → S1.1 0 i = S.1 0 i := fun i hi => by rw [hS1]; simp only [wi_v, hi, and_false, if_false]
  have s07 : S1.1 0 7 = -1 := by rw [hS1]; simp only [wi_v, and_self, if_true]
  have sW : jv_words S1 := jv_words_congr (fun k _ => by rw [s3]) (by rw [sn 2 (by decide)]) (by rw [sn 2 (by decide)]) (fun w _ => by rw [sn 5 (by decide), sn 6 (by decide), sn 7 (by decide)]; exact ⟨rfl, rfl, rfl⟩) (sn 12 (by decide)) (fun w _ => by rw [sn 9 (by decide)]) hW
  obtain ⟨S5, e1, e2, e3, e4, e5, e6, e7⟩ := ctx (n := tN S) sW (by rw [sn 2 (by decide)]; exact n3) n2
  have hlx : lx (fun k => S1.1 3 (360 + k)) (tN S) 0 none false [] = tL S := by unfold tL; rw [s3]
  rw [hlx] at e1 e2 e3
  rw [s3] at e3
  have e50 : S5.1 0 = S1.1 0 := e7 0 (by decide) (by decide) (by decide) (by decide) (by decide) (by decide) (by decide) (by decide) (by decide)
  have e585 : S5.1 85 = S1.1 85 := e7 85 (by decide) (by decide) (by decide) (by decide) (by decide) (by decide) (by decide) (by decide) (by decide)
  have hload : ja_X11_load 0 S = if bi (tL S).1 = 0 then nk_lt (nk_wi S5 0 7 (S5.1 2 4)) fun S7 => ja_X11_load_b30 0 1 S7 else ja_X11_load_b30 0 0 S5 := by
    unfold ja_X11_load
    rw [lt_eq, jc_0_3, ← hS1, e1, bd_some]
  have fr : ∀ S' : nk_S, S'.2 = S5.2 → (∀ a, a ≠ 0 → a ≠ 85 → S'.1 a = S5.1 a) → (∀ i, i ≠ 7 → S'.1 0 i = S5.1 0 i) → (∀ i, i ≠ 2 → S'.1 85 i = S5.1 85 i) → c_fr S S' := by
    intro S' f1 f2 f3 f4
    refine ⟨by rw [f1, e6, hS1]; rfl, fun a x0 x2 x4 x5 x6 x7 x8 x9 x10 x11 x85 => by rw [f2 a x0 x85, e7 a x2 x4 x5 x6 x7 x8 x9 x10 x11, sn a x0], fun i hi => by rw [f3 i hi, e50, s0 i hi], fun i hi => by rw [f4 i hi, e585, sn 85 (by decide)], ?_, by rw [f2 2 (by decide) (by decide)]; exact e5⟩
    exact jv_words_congr (S := S5) (fun k _ => by rw [f2 3 (by decide) (by decide)]) (by rw [f2 2 (by decide) (by decide)]) (by rw [f2 2 (by decide) (by decide)]) (fun w _ => by rw [f2 5 (by decide) (by decide), f2 6 (by decide) (by decide), f2 7 (by decide) (by decide)]; exact ⟨rfl, rfl, rfl⟩) (f2 12 (by decide) (by decide)) (fun w _ => by rw [f2 9 (by decide) (by decide)]) e4
  have hform : (tL S).1 = true → ∃ c, CW (S.1 3) S5 (tL S).2 c ∧ CF S5 (tX S) c ∧ ja_X6_checkForm 85 S5 = fA S5 (fProg (tX S) 20000 20000 0) := by
    intro h
    obtain ⟨c, hc⟩ := e3 h
    have hCF := CF_of hc (by omega)
    exact ⟨c, hc, hCF, c_checkForm hCF⟩
  refine ⟨fun h => ?_, fun h hf => ?_, fun h hf => ?_⟩
  · rw [h] at hload
    rw [hload, if_pos (show bi false = 0 from rfl), lt_eq]
    refine ⟨nk_wi S5 0 7 (S5.1 2 4), rfl, ?_, fr _ rfl (fun a h0 _ => wi_n h0) (fun i hi => ?_) (fun i _ => ?_)⟩
    · simp only [wi_v, and_self, if_true]; exact e2
    · simp only [wi_v, hi, and_false, if_false]
    · rw [wi_n (by decide)]
  · obtain ⟨c, -, -, hfo⟩ := hform h
    rw [h] at hload
    rw [hload, if_neg (show ¬ bi true = 0 by decide)]
    unfold ja_X11_load_b30 fA at *
    rw [if_pos rfl, jc_0_8, hfo, bd_some, lt_eq, hf]
    obtain ⟨S6, hS6⟩ : ∃ S6, S6 = nk_wi (ca S5 (fProg (tX S) 20000 20000 0).2) 0 7 ((fProg (tX S) 20000 20000 0).2 : Int) := ⟨_, rfl⟩
    have k7 : S6.1 0 7 = ((fProg (tX S) 20000 20000 0).2 : Int) := by rw [hS6]; simp only [wi_v, and_self, if_true]
    simp only [Bool.false_eq_true, if_false]
    rw [← hS6, k7, if_pos (by omega)]
    refine ⟨S6, rfl, k7, fr _ (by rw [hS6]; rfl) (fun a h0 h85 => ?_) (fun i hi => ?_) (fun i hi => ?_)⟩
    · rw [hS6, wi_n h0, ca_n S5 _ h85]
    · rw [hS6]; simp only [wi_v, hi, and_false, if_false]; rw [ca_n S5 _ (by decide)]
    · rw [hS6, wi_n (by decide)]; unfold ca; simp only [wi_v, hi, and_false, if_false]
  · obtain ⟨c, hcw, hcf, hfo⟩ := hform h
    rw [h] at hload
    rw [hload, if_neg (show ¬ bi true = 0 by decide)]
    unfold ja_X11_load_b30 fA at *
    rw [if_pos rfl, jc_0_8, hfo, bd_some, lt_eq, hf]
    obtain ⟨S6, hS6⟩ : ∃ S6, S6 = nk_wi (ca S5 (fProg (tX S) 20000 20000 0).2) 0 7 (-1) := ⟨_, rfl⟩
    have k7 : S6.1 0 7 = -1 := by rw [hS6]; simp only [wi_v, and_self, if_true]
    simp only [if_true]
    rw [← hS6, k7, if_neg (by decide)]
    have kn : ∀ a, a ≠ 0 → a ≠ 85 → S6.1 a = S5.1 a := fun a h0 h85 => by rw [hS6, wi_n h0, ca_n S5 _ h85]
    have kw : ∀ w, wd S6 w = wd S5 w := fun w => wd_congr (kn 3 (by decide) (by decide)) (by rw [kn 5 (by decide) (by decide)]) (by rw [kn 6 (by decide) (by decide)])
    refine ⟨S6, c, rfl, ?_, ?_, k7, fr _ (by rw [hS6]; rfl) kn (fun i hi => ?_) (fun i hi => ?_)⟩
    · obtain ⟨a1, a2, a3, a4, a5, a6, a7⟩ := hcw
      refine ⟨WI_congr (by rw [kn 2 (by decide) (by decide)]) (kn 3 (by decide) (by decide)) (kn 5 (by decide) (by decide)) (kn 6 (by decide) (by decide)) (kn 7 (by decide) (by decide)) (kn 8 (by decide) (by decide)) a1, a2, by rw [kn 3 (by decide) (by decide)]; exact a3, by rw [kn 2 (by decide) (by decide)]; exact a4, ?_, ?_, ?_⟩
      · intro i q hq
        rw [kn 4 (by decide) (by decide)]
        obtain ⟨w, b1, b2, b3⟩ := a5 i q hq
        exact ⟨w, b1, b2, by rw [kw]; exact b3⟩
      · intro w hw; rw [kw]; exact a6 w hw
      · intro v hv
        have := a7 v hv
        unfold mn at this ⊢
        simp only [kw, kn 9 (by decide) (by decide), kn 10 (by decide) (by decide), kn 11 (by decide) (by decide)]
        exact this
    · obtain ⟨a1, a2, a3, a4, a5, a6, a7, a8, a9⟩ := hcf
      refine ⟨by rw [kn 2 (by decide) (by decide)]; exact a1, a2, a3, by rw [kn 2 (by decide) (by decide)]; exact a4, a5, ?_, ?_, ?_, ?_⟩
      · intro i l hl
        rw [kn 4 (by decide) (by decide)]
        obtain ⟨w, b1, b2, b3⟩ := a6 i l hl
        exact ⟨w, b1, b2, by rw [kw]; exact b3⟩
      · intro w w' hw hw' e; rw [kw, kw] at e; exact a7 w w' hw hw' e
      · intro w hw; rw [kw]; exact a8 w hw
      · intro v hv; rw [kw, kn 9 (by decide) (by decide)]; exact a9 v hv
    · rw [hS6]; simp only [wi_v, hi, and_false, if_false]; rw [ca_n S5 _ (by decide)]
    · rw [hS6, wi_n (by decide)]; unfold ca; simp only [wi_v, hi, and_false, if_false]
