/-! The second level: steps that read and write cells. -/
theorem nk_in_of {x : Int32} {n : Nat} (h0 : 0 ≤ x.toInt) (h1 : x.toInt < n) : mi_in x n = true := by
  unfold mi_in
  rw [decide_eq_true_eq]
  rintro (h | h)
  · rw [Int32.lt_iff_toInt_lt] at h
    have e : (0 : Int32).toInt = 0 := by decide +kernel
    omega
  · have e : x.toNatClampNeg = x.toInt.toNat := rfl
    omega
theorem nk_rp_obj {T : List nk_D} {S : nk_S} {h : List mi_C} {a ci : Nat} {ds : List (Nat × Nat)} (hr : nk_rp T S h) (h1 : T[a]? = some (.inl (ci, ds))) : ∃ fs : List Value, h[a]? = some (.inl (ci, fs)) ∧ fs.length = ds.length ∧ ∀ k e, ds[k]? = some e → ∃ v, fs[k]? = some v ∧ nk_fo T S a k e v := by
  obtain ⟨c0, g, fs, e1, e2, e3⟩ := hr.2 a _ h1
  subst e1
  exact ⟨fs, g, e2, e3⟩
theorem nk_rp_row {T : List nk_D} {S : nk_S} {h : List mi_C} {a t n : Nat} (hr : nk_rp T S h) (h1 : nk_ar T a = some (t, n)) (ht : t ≠ 2) : t < 4 ∧ n < 2147483648 ∧ ∃ xs : List Int32, h[a]? = some (.inr (t, n, .inl xs)) ∧ ∀ i, i < n → (xs.getD i 0).toInt = S.1 a i ∧ nk_rg t (S.1 a i) := by
  obtain ⟨c0, g, p1, p2, q⟩ := hr.2 a _ (nk_ar_T h1)
  rcases q with ⟨-, xs, rfl, k⟩ | ⟨e, -⟩
  · exact ⟨p1, p2, xs, g, k⟩
  · exact absurd e ht
theorem nk_rp_rol {T : List nk_D} {S : nk_S} {h : List mi_C} {a n : Nat} (hr : nk_rp T S h) (h1 : nk_ar T a = some (2, n)) : n < 2147483648 ∧ ∃ xs : List Int64, h[a]? = some (.inr (2, n, .inr xs)) ∧ ∀ i, i < n → (xs.getD i 0).toInt = S.1 a i := by
  obtain ⟨c0, g, p1, p2, q⟩ := hr.2 a _ (nk_ar_T h1)
  rcases q with ⟨e, -⟩ | ⟨-, xs, rfl, k⟩
  · exact absurd rfl e
  · exact ⟨p2, xs, g, k⟩
/-- one field is written -/
theorem nk_rp_fld {T : List nk_D} {S S' : nk_S} {h : List mi_C} {a ci k : Nat} {ds : List (Nat × Nat)} {d : Nat × Nat} {fs : List Value} {v : Value} (hr : nk_rp T S h) (h1 : T[a]? = some (.inl (ci, ds))) (hd : ds[k]? = some d) (g : h[a]? = some (.inl (ci, fs))) (hl : fs.length = ds.length) (e3 : ∀ k e, ds[k]? = some e → ∃ v, fs[k]? = some v ∧ nk_fo T S a k e v) (n1 : ∀ b i, ¬ (b = a ∧ i = k) → S'.1 b i = S.1 b i) (n2 : ∀ b i, ¬ (b = a ∧ i = k) → S'.2 b i = S.2 b i) (hv : nk_fo T S' a k d v) : nk_rp T S' (h.set a (.inl (ci, fs.set k v))) := by
  refine nk_rp_set hr h1 (fun b hb i => n1 b i (fun e => hb e.1.symm)) (fun b hb i => n2 b i (fun e => hb e.1.symm)) ⟨fs.set k v, rfl, by rw [List.length_set]; exact hl, fun i e he => ?_⟩
  by_cases hi : k = i
  · subst hi
    rw [hd] at he
    cases he
    have hk : k < fs.length := by
      have := (List.getElem?_eq_some_iff.mp hd).1
      omega
    exact ⟨v, List.getElem?_set_self hk, hv⟩
  · obtain ⟨u, g1, g2⟩ := e3 i e he
    exact ⟨u, by rw [List.getElem?_set_ne hi]; exact g1, nk_fo_ne (n1 a i (fun e => hi e.2.symm)) (n2 a i (fun e => hi e.2.symm)) g2⟩
theorem nk_rp_wri {T : List nk_D} {S : nk_S} {h : List mi_C} {a t n i : Nat} {x : Int32} {xs : List Int32} (hr : nk_rp T S h) (h1 : nk_ar T a = some (t, n)) (ht : t ≠ 2) (h4 : t < 4) (hn : n < 2147483648) (k : ∀ i, i < n → (xs.getD i 0).toInt = S.1 a i ∧ nk_rg t (S.1 a i)) (hx : nk_rg t x.toInt) : nk_rp T (nk_wi S a i x.toInt) (h.set a (.inr (t, n, .inl (mi_sl 0 xs i x)))) := by
  refine nk_rp_set hr (nk_ar_T h1) (fun b hb i => by simp only [nk_wi]; rw [if_neg (fun e => hb e.1.symm)]) (fun b hb i => rfl) ⟨h4, hn, Or.inl ⟨ht, _, rfl, fun l hl => ?_⟩⟩
  rw [mi_sl_get]
  simp only [nk_wi]
  by_cases e : l = i
  · subst e; simp only [and_self, if_true]; exact ⟨trivial, hx⟩
  · simp only [e, and_false, if_false]; exact k l hl
theorem nk_rp_wrl {T : List nk_D} {S : nk_S} {h : List mi_C} {a n i : Nat} {x : Int64} {xs : List Int64} (hr : nk_rp T S h) (h1 : nk_ar T a = some (2, n)) (hn : n < 2147483648) (k : ∀ i, i < n → (xs.getD i 0).toInt = S.1 a i) : nk_rp T (nk_wi S a i x.toInt) (h.set a (.inr (2, n, .inr (mi_sl 0 xs i x)))) := by
  refine nk_rp_set hr (nk_ar_T h1) (fun b hb i => by simp only [nk_wi]; rw [if_neg (fun e => hb e.1.symm)]) (fun b hb i => rfl) ⟨by decide, hn, Or.inr ⟨rfl, _, rfl, fun l hl => ?_⟩⟩
  rw [mi_sl_get]
  simp only [nk_wi]
  by_cases e : l = i
  · subst e; simp only [and_self, if_true]
  · simp only [e, and_false, if_false]; exact k l hl
theorem nk_rg1 (x : Int) : nk_rg 1 x := ⟨fun e => (by cases e), fun e => (by cases e)⟩
theorem nk_bool32 {x : Int32} (h : x.toInt = 0 ∨ x.toInt = 1) : x = 0 ∨ x = 1 := by
  rcases h with h | h
  · exact Or.inl (Int32.toInt_inj.mp h)
  · exact Or.inr (Int32.toInt_inj.mp h)
section NKC
variable {T : List nk_D} {F : List (List (Nat × Nat × Nat))} {Γ : Nat → Option mi_Me} {ev : mi_Ev} {q j pc pc' : Nat} {L L' : nk_L} {st st' : List nk_V} {S S' : nk_S} {R : Int × nk_S} {M : mi_Me} {i : Instr} {len : Nat} {X Y V : Int} {a ci k x : Nat} {y : Nat × Nat} {ty : FieldType}
theorem nk_getI (hT : nk_okT T F = true) (hj : Γ j = some M) (hf : mi_ft M.2.2.2.2.1 pc = some (.getfield x, len)) (hK : M.2.2.2.2.2.1.1 x = some (ci, k)) (hF : nk_ft F ci k = some (0, y)) (t : nk_cl T a = some ci) (hpc : pc + 3 = pc') (c : nk_K T Γ ev q j pc' L (nk_i (S.1 a k) :: st) S R) : nk_K T Γ ev q j pc L (nk_r a :: st) S R := by
  subst hpc
  intro lv vs h sl hl h0 hr
  match vs, h0 with
  | w :: vs, ⟨e, hs⟩ =>
    cases e
    obtain ⟨ds, d, h1, h2, h3⟩ := nk_fd hT t hF
    obtain ⟨fs, g, -, e3⟩ := nk_rp_obj hr h1
    obtain ⟨v, g1, g2⟩ := e3 k d h2
    have hd : d.1 = 0 := beq_iff_eq.mp h3
    unfold nk_fo at g2
    rw [hd] at g2
    obtain ⟨y, rfl, ey⟩ := g2
    exact mk_h hj hf rfl (mh_getf hK g g1) (c lv (.int y :: vs) h sl hl ⟨⟨y, rfl, ey⟩, hs⟩ hr)
theorem nk_getL (hT : nk_okT T F = true) (hj : Γ j = some M) (hf : mi_ft M.2.2.2.2.1 pc = some (.getfield x, len)) (hK : M.2.2.2.2.2.1.1 x = some (ci, k)) (hF : nk_ft F ci k = some (1, y)) (t : nk_cl T a = some ci) (hpc : pc + 3 = pc') (c : nk_K T Γ ev q j pc' L (nk_l (S.1 a k) :: st) S R) : nk_K T Γ ev q j pc L (nk_r a :: st) S R := by
  subst hpc
  intro lv vs h sl hl h0 hr
  match vs, h0 with
  | w :: vs, ⟨e, hs⟩ =>
    cases e
    obtain ⟨ds, d, h1, h2, h3⟩ := nk_fd hT t hF
    obtain ⟨fs, g, -, e3⟩ := nk_rp_obj hr h1
    obtain ⟨v, g1, g2⟩ := e3 k d h2
    have hd : d.1 = 1 := beq_iff_eq.mp h3
    unfold nk_fo at g2
    rw [hd] at g2
    obtain ⟨y, rfl, ey⟩ := g2
    exact mk_h hj hf rfl (mh_getf hK g g1) (c lv (.long y :: vs) h sl hl ⟨⟨y, rfl, ey⟩, hs⟩ hr)
theorem nk_getC {f : Nat × Nat × Nat} (hT : nk_okT T F = true) (hj : Γ j = some M) (hf : mi_ft M.2.2.2.2.1 pc = some (.getfield x, len)) (hK : M.2.2.2.2.2.1.1 x = some (ci, k)) (hF : nk_ft F ci k = some f) (hf2 : f.1 = 2 ∨ f.1 = 4) (t : nk_cl T a = some ci) (hpc : pc + 3 = pc') (c : nk_K T Γ ev q j pc' L (nk_r (nk_cr T a k) :: st) S R) : nk_K T Γ ev q j pc L (nk_r a :: st) S R := by
  subst hpc
  intro lv vs h sl hl h0 hr
  match vs, h0 with
  | w :: vs, ⟨e, hs⟩ =>
    cases e
    obtain ⟨ds, d, h1, h2, h3⟩ := nk_fd hT t hF
    obtain ⟨fs, g, -, e3⟩ := nk_rp_obj hr h1
    obtain ⟨v, g1, g2⟩ := e3 k d h2
    have hd : d.1 = 2 := by
      unfold nk_okf at h3
      rcases hf2 with e | e
      · rw [e] at h3; simp only [Bool.and_eq_true, beq_iff_eq] at h3; exact h3.1
      · rw [e] at h3; simp only [Bool.and_eq_true, beq_iff_eq] at h3; exact h3.1
    unfold nk_fo at g2
    rw [hd] at g2
    subst g2
    rw [nk_cr_eq h1 h2] at c
    exact mk_h hj hf rfl (mh_getf hK g g1) (c lv (.ref d.2 :: vs) h sl hl ⟨rfl, hs⟩ hr)
theorem nk_getM {cj : Nat} (hT : nk_okT T F = true) (hj : Γ j = some M) (hf : mi_ft M.2.2.2.2.1 pc = some (.getfield x, len)) (hK : M.2.2.2.2.2.1.1 x = some (ci, k)) {z : Nat} (hF : nk_ft F ci k = some (3, cj, z)) (t : nk_cl T a = some ci) (hpc : pc + 3 = pc') (c : nk_cl T (S.2 a k) = some cj → nk_K T Γ ev q j pc' L (nk_r (S.2 a k) :: st) S R) : nk_K T Γ ev q j pc L (nk_r a :: st) S R := by
  subst hpc
  intro lv vs h sl hl h0 hr
  match vs, h0 with
  | w :: vs, ⟨e, hs⟩ =>
    cases e
    obtain ⟨ds, d, h1, h2, h3⟩ := nk_fd hT t hF
    obtain ⟨fs, g, -, e3⟩ := nk_rp_obj hr h1
    obtain ⟨v, g1, g2⟩ := e3 k d h2
    simp only [nk_okf, Bool.and_eq_true, beq_iff_eq] at h3
    unfold nk_fo at g2
    rw [h3.1] at g2
    obtain ⟨rfl, g3⟩ := g2
    rw [h3.2] at g3
    exact mk_h hj hf rfl (mh_getf hK g g1) (c g3 lv (.ref (S.2 a k) :: vs) h sl hl ⟨rfl, hs⟩ hr)
theorem nk_putI (hT : nk_okT T F = true) (hj : Γ j = some M) (hf : mi_ft M.2.2.2.2.1 pc = some (.putfield x, len)) (hK : M.2.2.2.2.2.1.2.1 x = some (ci, k, ty)) (hF : nk_ft F ci k = some (0, y)) (t : nk_cl T a = some ci) (hb : ty = .int ∨ ty = .boolean ∧ (X = 0 ∨ X = 1)) (hpc : pc + 3 = pc') (hS : S' = nk_wi S a k X) (c : nk_K T Γ ev q j pc' L st S' R) : nk_K T Γ ev q j pc L (nk_i X :: nk_r a :: st) S R := by
  subst hpc; subst hS
  intro lv vs h sl hl h0 hr
  match vs, h0 with
  | w :: u :: vs, ⟨⟨y, e1, e2⟩, e, hs⟩ =>
    cases e; subst e1; subst e2
    obtain ⟨ds, d, h1, h2, h3⟩ := nk_fd hT t hF
    obtain ⟨fs, g, g0, e3⟩ := nk_rp_obj hr h1
    have hd : d.1 = 0 := beq_iff_eq.mp h3
    have hk : k < fs.length := by
      have := (List.getElem?_eq_some_iff.mp h2).1
      omega
    have hfn : fits ty (.int y) = true ∧ narrow ty (.int y) = .int y := by
      rcases hb with rfl | ⟨rfl, hb⟩
      · exact ⟨rfl, rfl⟩
      · rcases nk_bool32 hb with rfl | rfl
        · exact ⟨rfl, rfl⟩
        · exact ⟨rfl, rfl⟩
    refine mk_h hj hf rfl (mh_putf hK g hk hfn.1 hfn.2 rfl) (c lv vs _ sl hl hs ?_)
    refine nk_rp_fld hr h1 h2 g g0 e3 (fun b i hne => ?_) (fun b i hne => rfl) ?_
    · simp only [nk_wi]; rw [if_neg hne]
    · unfold nk_fo; rw [hd]; exact ⟨y, rfl, by simp only [nk_wi, and_self, if_true]⟩
theorem nk_putL (hT : nk_okT T F = true) (hj : Γ j = some M) (hf : mi_ft M.2.2.2.2.1 pc = some (.putfield x, len)) (hK : M.2.2.2.2.2.1.2.1 x = some (ci, k, .long)) (hF : nk_ft F ci k = some (1, y)) (t : nk_cl T a = some ci) (hpc : pc + 3 = pc') (hS : S' = nk_wi S a k X) (c : nk_K T Γ ev q j pc' L st S' R) : nk_K T Γ ev q j pc L (nk_l X :: nk_r a :: st) S R := by
  subst hpc; subst hS
  intro lv vs h sl hl h0 hr
  match vs, h0 with
  | w :: u :: vs, ⟨⟨y, e1, e2⟩, e, hs⟩ =>
    cases e; subst e1; subst e2
    obtain ⟨ds, d, h1, h2, h3⟩ := nk_fd hT t hF
    obtain ⟨fs, g, g0, e3⟩ := nk_rp_obj hr h1
    have hd : d.1 = 1 := beq_iff_eq.mp h3
    have hk : k < fs.length := by
      have := (List.getElem?_eq_some_iff.mp h2).1
      omega
    refine mk_h hj hf rfl (mh_putf hK g hk rfl rfl rfl) (c lv vs _ sl hl hs ?_)
    refine nk_rp_fld hr h1 h2 g g0 e3 (fun b i hne => ?_) (fun b i hne => rfl) ?_
    · simp only [nk_wi]; rw [if_neg hne]
    · unfold nk_fo; rw [hd]; exact ⟨y, rfl, by simp only [nk_wi, and_self, if_true]⟩
theorem nk_putM {cj b z : Nat} {on : String} (hT : nk_okT T F = true) (hj : Γ j = some M) (hf : mi_ft M.2.2.2.2.1 pc = some (.putfield x, len)) (hK : M.2.2.2.2.2.1.2.1 x = some (ci, k, .object on)) (hF : nk_ft F ci k = some (3, cj, z)) (t : nk_cl T a = some ci) (tb : nk_cl T b = some cj) (hpc : pc + 3 = pc') (hS : S' = nk_wr S a k b) (c : nk_K T Γ ev q j pc' L st S' R) : nk_K T Γ ev q j pc L (nk_r b :: nk_r a :: st) S R := by
  subst hpc; subst hS
  intro lv vs h sl hl h0 hr
  match vs, h0 with
  | w :: u :: vs, ⟨e1, e, hs⟩ =>
    cases e; cases e1
    obtain ⟨ds, d, h1, h2, h3⟩ := nk_fd hT t hF
    obtain ⟨fs, g, g0, e3⟩ := nk_rp_obj hr h1
    simp only [nk_okf, Bool.and_eq_true, beq_iff_eq] at h3
    have hk : k < fs.length := by
      have := (List.getElem?_eq_some_iff.mp h2).1
      omega
    refine mk_h hj hf rfl (mh_putf hK g hk rfl rfl rfl) (c lv vs _ sl hl hs ?_)
    refine nk_rp_fld hr h1 h2 g g0 e3 (fun b i hne => rfl) (fun b i hne => ?_) ?_
    · simp only [nk_wr]; rw [if_neg hne]
    · unfold nk_fo; rw [h3.1]
      refine ⟨?_, ?_⟩
      · simp only [nk_wr, and_self, if_true]
      · simp only [nk_wr, and_self, if_true]; rw [h3.2]; exact tb
theorem nk_iald {n : Nat} {N : Int} (hj : Γ j = some M) (hf : mi_ft M.2.2.2.2.1 pc = some (.iaload, len)) (ta : nk_ar T a = some (1, n)) (b0 : 0 ≤ X) (b1 : X < N) (hN : (n : Int) = N) (hpc : pc + 1 = pc') (c : nk_K T Γ ev q j pc' L (nk_i (S.1 a X.toNat) :: st) S R) : nk_K T Γ ev q j pc L (nk_i X :: nk_r a :: st) S R := by
  subst hpc; subst hN
  intro lv vs h sl hl h0 hr
  match vs, h0 with
  | w :: u :: vs, ⟨⟨y, e1, e2⟩, e, hs⟩ =>
    cases e; subst e1; subst e2
    obtain ⟨-, -, xs, g, k⟩ := nk_rp_row hr ta (by decide)
    have hy : y.toInt.toNat < n := by omega
    refine mk_h hj hf rfl (h' := h) (sl' := sl) (f' := (pc + 1, lv, .int (xs.getD y.toNatClampNeg 0) :: vs)) ?_ (c lv _ h sl hl ⟨⟨_, rfl, (k _ hy).1⟩, hs⟩ hr)
    simp only [mi_heap, g, nk_in_of b0 b1, if_true]
theorem nk_bald {n t : Nat} {N : Int} (hj : Γ j = some M) (hf : mi_ft M.2.2.2.2.1 pc = some (.baload, len)) (ta : nk_ar T a = some (t, n)) (ht : t = 0 ∨ t = 3) (b0 : 0 ≤ X) (b1 : X < N) (hN : (n : Int) = N) (hpc : pc + 1 = pc') (c : nk_K T Γ ev q j pc' L (nk_i (S.1 a X.toNat) :: st) S R) : nk_K T Γ ev q j pc L (nk_i X :: nk_r a :: st) S R := by
  subst hpc; subst hN
  intro lv vs h sl hl h0 hr
  match vs, h0 with
  | w :: u :: vs, ⟨⟨y, e1, e2⟩, e, hs⟩ =>
    cases e; subst e1; subst e2
    obtain ⟨-, -, xs, g, k⟩ := nk_rp_row hr ta (by omega)
    have hy : y.toInt.toNat < n := by omega
    refine mk_h hj hf rfl (h' := h) (sl' := sl) (f' := (pc + 1, lv, .int (xs.getD y.toNatClampNeg 0) :: vs)) ?_ (c lv _ h sl hl ⟨⟨_, rfl, (k _ hy).1⟩, hs⟩ hr)
    rcases ht with rfl | rfl
    · simp only [mi_heap, g, nk_in_of b0 b1, if_true]
    · simp only [mi_heap, g, nk_in_of b0 b1, if_true]
theorem nk_lald {n : Nat} {N : Int} (hj : Γ j = some M) (hf : mi_ft M.2.2.2.2.1 pc = some (.laload, len)) (ta : nk_ar T a = some (2, n)) (b0 : 0 ≤ X) (b1 : X < N) (hN : (n : Int) = N) (hpc : pc + 1 = pc') (c : nk_K T Γ ev q j pc' L (nk_l (S.1 a X.toNat) :: st) S R) : nk_K T Γ ev q j pc L (nk_i X :: nk_r a :: st) S R := by
  subst hpc; subst hN
  intro lv vs h sl hl h0 hr
  match vs, h0 with
  | w :: u :: vs, ⟨⟨y, e1, e2⟩, e, hs⟩ =>
    cases e; subst e1; subst e2
    obtain ⟨-, xs, g, k⟩ := nk_rp_rol hr ta
    have hy : y.toInt.toNat < n := by omega
    refine mk_h hj hf rfl (h' := h) (sl' := sl) (f' := (pc + 1, lv, .long (xs.getD y.toNatClampNeg 0) :: vs)) ?_ (c lv _ h sl hl ⟨⟨_, rfl, k _ hy⟩, hs⟩ hr)
    simp only [mi_heap, g, nk_in_of b0 b1, if_true]
theorem nk_iast {n : Nat} {N : Int} (hj : Γ j = some M) (hf : mi_ft M.2.2.2.2.1 pc = some (.iastore, len)) (ta : nk_ar T a = some (1, n)) (b0 : 0 ≤ X) (b1 : X < N) (hN : (n : Int) = N) (hpc : pc + 1 = pc') (hS : S' = nk_wi S a X.toNat V) (c : nk_K T Γ ev q j pc' L st S' R) : nk_K T Γ ev q j pc L (nk_i V :: nk_i X :: nk_r a :: st) S R := by
  subst hpc; subst hN; subst hS
  intro lv vs h sl hl h0 hr
  match vs, h0 with
  | z :: w :: u :: vs, ⟨⟨v, e3, e4⟩, ⟨y, e1, e2⟩, e, hs⟩ =>
    cases e; subst e1; subst e2; subst e3; subst e4
    obtain ⟨h4, hn, xs, g, k⟩ := nk_rp_row hr ta (by decide)
    refine mk_h hj hf rfl (h' := h.set a (.inr (1, n, .inl (mi_sl 0 xs y.toNatClampNeg v)))) (sl' := sl) (f' := (pc + 1, lv, vs)) ?_ (c lv _ _ sl hl hs (nk_rp_wri hr ta (by decide) h4 hn k (nk_rg1 _)))
    simp only [mi_heap, g, nk_in_of b0 b1, if_true]
theorem nk_bast {n : Nat} {N : Int} (hj : Γ j = some M) (hf : mi_ft M.2.2.2.2.1 pc = some (.bastore, len)) (ta : nk_ar T a = some (0, n)) (b0 : 0 ≤ X) (b1 : X < N) (hN : (n : Int) = N) (hpc : pc + 1 = pc') (hS : S' = nk_wi S a X.toNat (nk_i2b V)) (c : nk_K T Γ ev q j pc' L st S' R) : nk_K T Γ ev q j pc L (nk_i V :: nk_i X :: nk_r a :: st) S R := by
  subst hpc; subst hN; subst hS
  intro lv vs h sl hl h0 hr
  match vs, h0 with
  | z :: w :: u :: vs, ⟨⟨v, e3, e4⟩, ⟨y, e1, e2⟩, e, hs⟩ =>
    cases e; subst e1; subst e2; subst e3; subst e4
    obtain ⟨h4, hn, xs, g, k⟩ := nk_rp_row hr ta (by decide)
    have ev : (vp_nar .byte v).toInt = nk_i2b v.toInt := by
      show v.toInt8.toInt32.toInt = _
      rw [Int8.toInt_toInt32, Int32.toInt_toInt8]; rfl
    have er : nk_rg 0 (vp_nar .byte v).toInt := by
      refine ⟨fun _ => ?_, fun e => (by cases e)⟩
      have e1 : (vp_nar .byte v).toInt = v.toInt8.toInt := Int8.toInt_toInt32 _
      have e2 := v.toInt8.toInt_lt
      have e3 := v.toInt8.le_toInt
      omega
    refine mk_h hj hf rfl (h' := h.set a (.inr (0, n, .inl (mi_sl 0 xs y.toNatClampNeg (vp_nar .byte v))))) (sl' := sl) (f' := (pc + 1, lv, vs)) ?_ (c lv _ _ sl hl hs ?_)
    · simp only [mi_heap, g, nk_in_of b0 b1, if_true]
    · rw [← ev]; exact nk_rp_wri hr ta (by decide) h4 hn k er
theorem nk_zast {n : Nat} {N : Int} (hj : Γ j = some M) (hf : mi_ft M.2.2.2.2.1 pc = some (.bastore, len)) (ta : nk_ar T a = some (3, n)) (b0 : 0 ≤ X) (b1 : X < N) (hV : V = 0 ∨ V = 1) (hN : (n : Int) = N) (hpc : pc + 1 = pc') (hS : S' = nk_wi S a X.toNat V) (c : nk_K T Γ ev q j pc' L st S' R) : nk_K T Γ ev q j pc L (nk_i V :: nk_i X :: nk_r a :: st) S R := by
  subst hpc; subst hN; subst hS
  intro lv vs h sl hl h0 hr
  match vs, h0 with
  | z :: w :: u :: vs, ⟨⟨v, e3, e4⟩, ⟨y, e1, e2⟩, e, hs⟩ =>
    cases e; subst e1; subst e2; subst e3; subst e4
    obtain ⟨h4, hn, xs, g, k⟩ := nk_rp_row hr ta (by decide)
    have ev : vp_nar .boolean v = v := by
      rcases nk_bool32 hV with rfl | rfl
      · decide +kernel
      · decide +kernel
    have er : nk_rg 3 v.toInt := ⟨fun e => (by cases e), fun _ => hV⟩
    refine mk_h hj hf rfl (h' := h.set a (.inr (3, n, .inl (mi_sl 0 xs y.toNatClampNeg (vp_nar .boolean v))))) (sl' := sl) (f' := (pc + 1, lv, vs)) ?_ (c lv _ _ sl hl hs ?_)
    · simp only [mi_heap, g, nk_in_of b0 b1, if_true]
    · rw [ev]; exact nk_rp_wri hr ta (by decide) h4 hn k er
theorem nk_last {n : Nat} {N : Int} (hj : Γ j = some M) (hf : mi_ft M.2.2.2.2.1 pc = some (.lastore, len)) (ta : nk_ar T a = some (2, n)) (b0 : 0 ≤ X) (b1 : X < N) (hN : (n : Int) = N) (hpc : pc + 1 = pc') (hS : S' = nk_wi S a X.toNat V) (c : nk_K T Γ ev q j pc' L st S' R) : nk_K T Γ ev q j pc L (nk_l V :: nk_i X :: nk_r a :: st) S R := by
  subst hpc; subst hN; subst hS
  intro lv vs h sl hl h0 hr
  match vs, h0 with
  | z :: w :: u :: vs, ⟨⟨v, e3, e4⟩, ⟨y, e1, e2⟩, e, hs⟩ =>
    cases e; subst e1; subst e2; subst e3; subst e4
    obtain ⟨hn, xs, g, k⟩ := nk_rp_rol hr ta
    refine mk_h hj hf rfl (h' := h.set a (.inr (2, n, .inr (mi_sl 0 xs y.toNatClampNeg v)))) (sl' := sl) (f' := (pc + 1, lv, vs)) ?_ (c lv _ _ sl hl hs (nk_rp_wrl hr ta hn k))
    simp only [mi_heap, g, nk_in_of b0 b1, if_true]
theorem nk_alen {t n : Nat} {N : Int} (hj : Γ j = some M) (hf : mi_ft M.2.2.2.2.1 pc = some (.arraylength, len)) (ta : nk_ar T a = some (t, n)) (hN : (n : Int) = N) (hpc : pc + 1 = pc') (c : nk_K T Γ ev q j pc' L (nk_i N :: st) S R) : nk_K T Γ ev q j pc L (nk_r a :: st) S R := by
  subst hpc; subst hN
  intro lv vs h sl hl h0 hr
  match vs, h0 with
  | w :: vs, ⟨e, hs⟩ =>
    cases e
    by_cases ht : t = 2
    · subst ht
      obtain ⟨hn, xs, g, k⟩ := nk_rp_rol hr ta
      exact mk_h hj hf rfl (mh_len g (by decide) rfl) (c lv _ h sl hl ⟨⟨_, rfl, Int32.toInt_ofNat_of_lt hn⟩, hs⟩ hr)
    · obtain ⟨h4, hn, xs, g, k⟩ := nk_rp_row hr ta ht
      exact mk_h hj hf rfl (mh_len g h4 rfl) (c lv _ h sl hl ⟨⟨_, rfl, Int32.toInt_ofNat_of_lt hn⟩, hs⟩ hr)
theorem nk_ldci {v : Int32} (hj : Γ j = some M) (hf : mi_ft M.2.2.2.2.1 pc = some (.ldc x, len)) (hK : M.2.2.2.2.2.1.2.2.2.1 x = some v) (hv : v.toInt = X) (hpc : pc + 2 = pc') (c : nk_K T Γ ev q j pc' L (nk_i X :: st) S R) : nk_K T Γ ev q j pc L st S R := by
  subst hpc
  intro lv vs h sl hl hs hr
  refine mk_h hj hf rfl (h' := h) (sl' := sl) (f' := (pc + 2, lv, .int v :: vs)) ?_ (c lv _ h sl hl ⟨⟨_, rfl, hv⟩, hs⟩ hr)
  simp only [mi_heap, hK]
theorem nk_ldcw {v : Int32} (hj : Γ j = some M) (hf : mi_ft M.2.2.2.2.1 pc = some (.ldc_w x, len)) (hK : M.2.2.2.2.2.1.2.2.2.1 x = some v) (hv : v.toInt = X) (hpc : pc + 3 = pc') (c : nk_K T Γ ev q j pc' L (nk_i X :: st) S R) : nk_K T Γ ev q j pc L st S R := by
  subst hpc
  intro lv vs h sl hl hs hr
  refine mk_h hj hf rfl (h' := h) (sl' := sl) (f' := (pc + 3, lv, .int v :: vs)) ?_ (c lv _ h sl hl ⟨⟨_, rfl, hv⟩, hs⟩ hr)
  simp only [mi_heap, hK]
theorem nk_ldc2 {v : Int64} (hj : Γ j = some M) (hf : mi_ft M.2.2.2.2.1 pc = some (.ldc2_w x, len)) (hK : M.2.2.2.2.2.1.2.2.2.2.1 x = some v) (hv : v.toInt = X) (hpc : pc + 3 = pc') (c : nk_K T Γ ev q j pc' L (nk_l X :: st) S R) : nk_K T Γ ev q j pc L st S R := by
  subst hpc
  intro lv vs h sl hl hs hr
  refine mk_h hj hf rfl (h' := h) (sl' := sl) (f' := (pc + 3, lv, .long v :: vs)) ?_ (c lv _ h sl hl ⟨⟨_, rfl, hv⟩, hs⟩ hr)
  simp only [mi_heap, hK]
theorem nk_ldct {s : String} (hj : Γ j = some M) (hf : mi_ft M.2.2.2.2.1 pc = some (.ldc x, len)) (hK : M.2.2.2.2.2.1.2.2.2.1 x = none) (hK2 : M.2.2.2.2.2.1.2.2.2.2.2.1 x = some (s, k)) (hpc : pc + 2 = pc') (c : nk_K T Γ ev q j pc' L (nk_o k :: st) S R) : nk_K T Γ ev q j pc L st S R := by
  subst hpc
  intro lv vs h sl hl hs hr
  refine mk_h hj hf rfl (h' := h) (sl' := sl) (f' := (pc + 2, lv, .retAddr k :: vs)) ?_ (c lv _ h sl hl ⟨rfl, hs⟩ hr)
  simp only [mi_heap, hK, hK2]
theorem nk_ldwt {s : String} (hj : Γ j = some M) (hf : mi_ft M.2.2.2.2.1 pc = some (.ldc_w x, len)) (hK : M.2.2.2.2.2.1.2.2.2.1 x = none) (hK2 : M.2.2.2.2.2.1.2.2.2.2.2.1 x = some (s, k)) (hpc : pc + 3 = pc') (c : nk_K T Γ ev q j pc' L (nk_o k :: st) S R) : nk_K T Γ ev q j pc L st S R := by
  subst hpc
  intro lv vs h sl hl hs hr
  refine mk_h hj hf rfl (h' := h) (sl' := sl) (f' := (pc + 3, lv, .retAddr k :: vs)) ?_ (c lv _ h sl hl ⟨rfl, hs⟩ hr)
  simp only [mi_heap, hK, hK2]
theorem nk_gsti {s1 s2 s3 : String} {v : Int32} (hj : Γ j = some M) (hf : mi_ft M.2.2.2.2.1 pc = some (.getstatic x, len)) (hK : M.2.2.2.2.2.1.2.2.2.2.2.2 x = some (s1, s2, s3, .int v)) (hv : v.toInt = X) (hpc : pc + 3 = pc') (c : nk_K T Γ ev q j pc' L (nk_i X :: st) S R) : nk_K T Γ ev q j pc L st S R := by
  subst hpc
  intro lv vs h sl hl hs hr
  refine mk_h hj hf rfl (h' := h) (sl' := sl) (f' := (pc + 3, lv, .int v :: vs)) ?_ (c lv _ h sl hl ⟨⟨_, rfl, hv⟩, hs⟩ hr)
  simp only [mi_heap, hK]
theorem nk_gsto {s1 s2 s3 : String} (hj : Γ j = some M) (hf : mi_ft M.2.2.2.2.1 pc = some (.getstatic x, len)) (hK : M.2.2.2.2.2.1.2.2.2.2.2.2 x = some (s1, s2, s3, .retAddr k)) (hpc : pc + 3 = pc') (c : nk_K T Γ ev q j pc' L (nk_o k :: st) S R) : nk_K T Γ ev q j pc L st S R := by
  subst hpc
  intro lv vs h sl hl hs hr
  refine mk_h hj hf rfl (h' := h) (sl' := sl) (f' := (pc + 3, lv, .retAddr k :: vs)) ?_ (c lv _ h sl hl ⟨rfl, hs⟩ hr)
  simp only [mi_heap, hK]
/-- things outside -/
theorem nk_oiald {xs : List Int32} {N : Int} (hj : Γ j = some M) (hf : mi_ft M.2.2.2.2.1 pc = some (.iaload, len)) (ho : mi_oa ev k = some (1, xs)) (b0 : 0 ≤ X) (b1 : X < N) (hN : (xs.length : Int) = N) (hpc : pc + 1 = pc') (c : nk_K T Γ ev q j pc' L (nk_i (xs.getD X.toNat 0).toInt :: st) S R) : nk_K T Γ ev q j pc L (nk_i X :: nk_o k :: st) S R := by
  subst hpc; subst hN
  intro lv vs h sl hl h0 hr
  match vs, h0 with
  | w :: u :: vs, ⟨⟨y, e1, e2⟩, e, hs⟩ =>
    cases e; subst e1; subst e2
    exact mk_h hj hf rfl (mh_ial ho (nk_in_of b0 b1) rfl) (c lv _ h sl hl ⟨⟨_, rfl, rfl⟩, hs⟩ hr)
theorem nk_obald {xs : List Int32} {N : Int} (hj : Γ j = some M) (hf : mi_ft M.2.2.2.2.1 pc = some (.baload, len)) (ho : mi_oa ev k = some (0, xs)) (b0 : 0 ≤ X) (b1 : X < N) (hN : (xs.length : Int) = N) (hpc : pc + 1 = pc') (c : nk_K T Γ ev q j pc' L (nk_i (xs.getD X.toNat 0).toInt :: st) S R) : nk_K T Γ ev q j pc L (nk_i X :: nk_o k :: st) S R := by
  subst hpc; subst hN
  intro lv vs h sl hl h0 hr
  match vs, h0 with
  | w :: u :: vs, ⟨⟨y, e1, e2⟩, e, hs⟩ =>
    cases e; subst e1; subst e2
    refine mk_h hj hf rfl (h' := h) (sl' := sl) (f' := (pc + 1, lv, .int (xs.getD y.toNatClampNeg 0) :: vs)) ?_ (c lv _ h sl hl ⟨⟨_, rfl, rfl⟩, hs⟩ hr)
    simp only [mi_heap, ho, nk_in_of b0 b1, if_true]
theorem nk_oalen {t : Nat} {xs : List Int32} (hj : Γ j = some M) (hf : mi_ft M.2.2.2.2.1 pc = some (.arraylength, len)) (ho : mi_oa ev k = some (t, xs)) (hn : xs.length < 2147483648) (hpc : pc + 1 = pc') (c : nk_K T Γ ev q j pc' L (nk_i (xs.length : Int) :: st) S R) : nk_K T Γ ev q j pc L (nk_o k :: st) S R := by
  subst hpc
  intro lv vs h sl hl h0 hr
  match vs, h0 with
  | w :: vs, ⟨e, hs⟩ =>
    cases e
    refine mk_h hj hf rfl (h' := h) (sl' := sl) (f' := (pc + 1, lv, .int (Int32.ofNat xs.length) :: vs)) ?_ (c lv _ h sl hl ⟨⟨_, rfl, Int32.toInt_ofNat_of_lt hn⟩, hs⟩ hr)
    simp only [mi_heap, ho]
theorem nk_text {v : Nat} (hj : Γ j = some M) (hf : mi_ft M.2.2.2.2.1 pc = some (.getfield x, len)) (hK : M.2.2.2.2.2.1.1 x = some (1000, 0)) (ho : mi_os ev k = some v) (hpc : pc + 3 = pc') (c : nk_K T Γ ev q j pc' L (nk_o v :: st) S R) : nk_K T Γ ev q j pc L (nk_o k :: st) S R := by
  subst hpc
  intro lv vs h sl hl h0 hr
  match vs, h0 with
  | w :: vs, ⟨e, hs⟩ =>
    cases e
    refine mk_h hj hf rfl (h' := h) (sl' := sl) (f' := (pc + 3, lv, .retAddr v :: vs)) ?_ (c lv _ h sl hl ⟨rfl, hs⟩ hr)
    simp only [mi_heap, hK, ho]
    rfl
theorem nk_coder {v : Nat} (hj : Γ j = some M) (hf : mi_ft M.2.2.2.2.1 pc = some (.getfield x, len)) (hK : M.2.2.2.2.2.1.1 x = some (1000, 1)) (ho : mi_os ev k = some v) (hpc : pc + 3 = pc') (c : nk_K T Γ ev q j pc' L (nk_i 0 :: st) S R) : nk_K T Γ ev q j pc L (nk_o k :: st) S R := by
  subst hpc
  intro lv vs h sl hl h0 hr
  match vs, h0 with
  | w :: vs, ⟨e, hs⟩ =>
    cases e
    refine mk_h hj hf rfl (h' := h) (sl' := sl) (f' := (pc + 3, lv, .int 0 :: vs)) ?_ (c lv _ h sl hl ⟨⟨0, rfl, by decide +kernel⟩, hs⟩ hr)
    simp only [mi_heap, hK, ho]
    rfl
end NKC
