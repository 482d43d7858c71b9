/-! The second level (nk_): ints are integers, cells are functions, a table tells the shapes of the cells. A run of the small machine is told by a function over this state. -/
abbrev nk_S : Type := (Nat → Nat → Int) × (Nat → Nat → Nat)
/-- values: an int, a long, a cell, a thing outside -/
abbrev nk_V : Type := (Int ⊕ Int) ⊕ (Nat ⊕ Nat)
abbrev nk_i (x : Int) : nk_V := .inl (.inl x)
abbrev nk_l (x : Int) : nk_V := .inl (.inr x)
abbrev nk_r (a : Nat) : nk_V := .inr (.inl a)
abbrev nk_o (k : Nat) : nk_V := .inr (.inr k)
def nk_vr : nk_V → Value → Prop
  | .inl (.inl x), w => ∃ y : Int32, w = .int y ∧ y.toInt = x
  | .inl (.inr x), w => ∃ y : Int64, w = .long y ∧ y.toInt = x
  | .inr (.inl a), w => w = .ref a
  | .inr (.inr k), w => w = .retAddr k
def nk_sr : List nk_V → List Value → Prop
  | [], [] => True
  | v :: st, w :: vs => nk_vr v w ∧ nk_sr st vs
  | _, _ => False
abbrev nk_L : Type := List (Nat × nk_V)
def nk_lr (L : nk_L) (lv : mi_L) : Prop := ∀ q ∈ L, ∃ w, mi_get lv q.1 = some w ∧ nk_vr q.2 w
def nk_is2 : nk_V → Bool
  | .inl (.inr _) => true
  | _ => false
def nk_up1 (L : nk_L) (k : Nat) (v : nk_V) : nk_L := (k, v) :: L.filter (fun q => !(q.1 == k) && !(q.1 + 1 == k && nk_is2 q.2))
def nk_up2 (L : nk_L) (k : Nat) (v : nk_V) : nk_L := (k, v) :: L.filter (fun q => !(q.1 == k) && (!(q.1 == k + 1) && !(q.1 + 1 == k && nk_is2 q.2)))
def nk_sel (L : nk_L) : List Nat → nk_L
  | [] => []
  | i :: is => match L[i]? with
    | some q => q :: nk_sel L is
    | none => nk_sel L is
theorem nk_sel_mem {L : nk_L} {is : List Nat} {q : Nat × nk_V} (h : q ∈ nk_sel L is) : q ∈ L := by
  induction is with
  | nil => cases h
  | cons i is ih =>
    rw [nk_sel] at h
    split at h
    · rename_i q1 h1
      rcases List.mem_cons.mp h with rfl | h
      · exact List.mem_of_getElem? h1
      · exact ih h
    · exact ih h
theorem nk_vr_cat {v : nk_V} {w : Value} (h : nk_vr v w) : w.category = if nk_is2 v then 2 else 1 := by
  match v, h with
  | .inl (.inl x), ⟨y, e, _⟩ => subst e; rfl
  | .inl (.inr x), ⟨y, e, _⟩ => subst e; rfl
  | .inr (.inl x), e => cases e; rfl
  | .inr (.inr x), e => cases e; rfl
theorem mi_get_filter {lv : mi_L} {p : Nat × Value → Bool} {k : Nat} {w : Value} (h : mi_get lv k = some w) (hp : p (k, w) = true) (hq : ∀ v, (k, v) ∈ lv → p (k, v) = false → v.category = 2 ∧ w.category = 2 → False) : mi_get (lv.filter p) k = some w ∨ ∃ v, (k, v) ∈ lv := Or.inr ⟨w, mi_get_mem h⟩
theorem mi_get_flt {p : Nat × Value → Bool} {k : Nat} {w : Value} : ∀ {lv : mi_L}, mi_get lv k = some w → p (k, w) = true → mi_get (lv.filter p) k = some w := by
  intro lv
  induction lv with
  | nil => intro h; cases h
  | cons q lv ih =>
    intro h hp
    obtain ⟨i, v⟩ := q
    unfold mi_get at h ih ⊢
    by_cases hi : i = k
    · subst hi
      rw [List.find?_cons_of_pos (by simp)] at h
      simp only [Option.map_some, Option.some.injEq] at h
      subst h
      rw [List.filter_cons_of_pos hp, List.find?_cons_of_pos (by simp)]
      rfl
    · rw [List.find?_cons_of_neg (by simpa using hi)] at h
      by_cases hq : p (i, v) = true
      · rw [List.filter_cons_of_pos hq, List.find?_cons_of_neg (by simpa using hi)]
        exact ih h hp
      · rw [List.filter_cons_of_neg hq]
        exact ih h hp
theorem nk_lr_up1 {L : nk_L} {lv : mi_L} {k : Nat} {v : nk_V} {w : Value} (h : nk_lr L lv) (hv : nk_vr v w) : nk_lr (nk_up1 L k v) (mi_st1 lv k w) := by
  intro q hq
  rcases List.mem_cons.mp hq with rfl | hq
  · refine ⟨w, ?_, hv⟩
    unfold mi_get mi_st1
    rw [List.find?_cons_of_pos (by simp)]
    rfl
  · obtain ⟨h1, h2⟩ := List.mem_filter.mp hq
    obtain ⟨u, hu, hr⟩ := h q h1
    refine ⟨u, ?_, hr⟩
    have hc := nk_vr_cat hr
    simp only [Bool.and_eq_true, Bool.not_eq_true', beq_eq_false_iff_ne, ne_eq] at h2
    have hg : mi_get (lv.filter (fun q => !(q.1 == k) && !(q.1 + 1 == k && q.2.category == 2))) q.1 = some u := by
      refine mi_get_flt hu ?_
      simp only [Bool.and_eq_true, Bool.not_eq_true', beq_eq_false_iff_ne, ne_eq]
      refine ⟨h2.1, ?_⟩
      have h3 := h2.2
      cases hq2 : nk_is2 q.2 with
      | true => rw [hq2] at h3; simp only [Bool.and_true] at h3; rw [h3]; rfl
      | false => rw [hq2] at hc; simp only [Bool.false_eq_true, if_false] at hc; rw [hc]; simp
    unfold mi_get mi_st1 at *
    rw [List.find?_cons_of_neg (by simpa using fun e => h2.1 e.symm)]
    exact hg
theorem nk_lr_up2 {L : nk_L} {lv : mi_L} {k : Nat} {v : nk_V} {w : Value} (h : nk_lr L lv) (hv : nk_vr v w) : nk_lr (nk_up2 L k v) (mi_st2 lv k w) := by
  intro q hq
  rcases List.mem_cons.mp hq with rfl | hq
  · refine ⟨w, ?_, hv⟩
    unfold mi_get mi_st2
    rw [List.find?_cons_of_pos (by simp)]
    rfl
  · obtain ⟨h1, h2⟩ := List.mem_filter.mp hq
    obtain ⟨u, hu, hr⟩ := h q h1
    refine ⟨u, ?_, hr⟩
    have hc := nk_vr_cat hr
    simp only [Bool.and_eq_true, Bool.not_eq_true', beq_eq_false_iff_ne, ne_eq] at h2
    have hg : mi_get (lv.filter (fun q => !(q.1 == k) && (!(q.1 == k + 1) && !(q.1 + 1 == k && q.2.category == 2)))) q.1 = some u := by
      refine mi_get_flt hu ?_
      simp only [Bool.and_eq_true, Bool.not_eq_true', beq_eq_false_iff_ne, ne_eq]
      refine ⟨h2.1, h2.2.1, ?_⟩
      have h3 := h2.2.2
      cases hq2 : nk_is2 q.2 with
      | true => rw [hq2] at h3; simp only [Bool.and_true] at h3; rw [h3]; rfl
      | false => rw [hq2] at hc; simp only [Bool.false_eq_true, if_false] at hc; rw [hc]; simp
    unfold mi_get mi_st2 at *
    rw [List.find?_cons_of_neg (by simpa using fun e => h2.1 e.symm)]
    exact hg
/-! shapes -/
abbrev nk_D : Type := (Nat × List (Nat × Nat)) ⊕ (Nat × Nat)
def nk_cl (T : List nk_D) (a : Nat) : Option Nat := match T[a]? with
  | some (.inl (ci, _)) => some ci
  | _ => none
def nk_ar (T : List nk_D) (a : Nat) : Option (Nat × Nat) := match T[a]? with
  | some (.inr q) => some q
  | _ => none
def nk_cr (T : List nk_D) (a k : Nat) : Nat := match T[a]? with
  | some (.inl (_, ds)) => match ds[k]? with
    | some d => d.2
    | none => 0
  | _ => 0
def nk_rg (t : Nat) (x : Int) : Prop := (t = 0 → -128 ≤ x ∧ x < 128) ∧ (t = 3 → x = 0 ∨ x = 1)
def nk_fo (T : List nk_D) (S : nk_S) (a k : Nat) (d : Nat × Nat) (v : Value) : Prop := match d.1 with
  | 0 => ∃ y : Int32, v = .int y ∧ y.toInt = S.1 a k
  | 1 => ∃ y : Int64, v = .long y ∧ y.toInt = S.1 a k
  | 2 => v = .ref d.2
  | _ => v = .ref (S.2 a k) ∧ nk_cl T (S.2 a k) = some d.2
def nk_ce (T : List nk_D) (S : nk_S) (a : Nat) (d : nk_D) (c : mi_C) : Prop := match d with
  | .inl (ci, ds) => ∃ fs : List Value, c = .inl (ci, fs) ∧ fs.length = ds.length ∧ ∀ k e, ds[k]? = some e → ∃ v, fs[k]? = some v ∧ nk_fo T S a k e v
  | .inr (t, n) => t < 4 ∧ n < 2147483648 ∧ ((t ≠ 2 ∧ ∃ xs : List Int32, c = .inr (t, n, .inl xs) ∧ ∀ i, i < n → (xs.getD i 0).toInt = S.1 a i ∧ nk_rg t (S.1 a i)) ∨ (t = 2 ∧ ∃ xs : List Int64, c = .inr (2, n, .inr xs) ∧ ∀ i, i < n → (xs.getD i 0).toInt = S.1 a i))
def nk_rp (T : List nk_D) (S : nk_S) (h : List mi_C) : Prop := h.length = T.length ∧ ∀ a d, T[a]? = some d → ∃ c, h[a]? = some c ∧ nk_ce T S a d c
/-- the fields' kinds: 0 an int, 1 a long, 2 always this object, 3 an object that changes, 4 always this row -/
def nk_okf (T : List nk_D) (d : Nat × Nat) (f : Nat × Nat × Nat) : Bool := match f.1 with
  | 0 => d.1 == 0
  | 1 => d.1 == 1
  | 2 => d.1 == 2 && nk_cl T d.2 == some f.2.1
  | 3 => d.1 == 3 && d.2 == f.2.1
  | _ => d.1 == 2 && nk_ar T d.2 == some f.2
def nk_oks (T : List nk_D) : List (Nat × Nat) → List (Nat × Nat × Nat) → Bool
  | [], [] => true
  | d :: ds, f :: fs => nk_okf T d f && nk_oks T ds fs
  | _, _ => false
def nk_okT (T : List nk_D) (F : List (List (Nat × Nat × Nat))) : Bool := T.all (fun d => match d with
  | .inl (ci, ds) => match F[ci]? with
    | some fs => nk_oks T ds fs
    | none => false
  | .inr _ => true)
def nk_ft (F : List (List (Nat × Nat × Nat))) (ci k : Nat) : Option (Nat × Nat × Nat) := match F[ci]? with
  | some fs => fs[k]?
  | none => none
theorem nk_oks_get {T : List nk_D} : ∀ {ds : List (Nat × Nat)} {fs : List (Nat × Nat × Nat)} {k : Nat} {f : Nat × Nat × Nat}, nk_oks T ds fs = true → fs[k]? = some f → ∃ d, ds[k]? = some d ∧ nk_okf T d f = true := by
  intro ds
  induction ds with
  | nil =>
    intro fs k f h hf
    cases fs with
    | nil => cases hf
    | cons _ _ => cases h
  | cons d ds ih =>
    intro fs k f h hf
    cases fs with
    | nil => cases h
    | cons g fs =>
      rw [nk_oks, Bool.and_eq_true] at h
      cases k with
      | zero => cases hf; exact ⟨d, rfl, h.1⟩
      | succ k => exact ih h.2 hf
theorem nk_fd {T : List nk_D} {F : List (List (Nat × Nat × Nat))} (hT : nk_okT T F = true) {a ci k : Nat} {f : Nat × Nat × Nat} (t : nk_cl T a = some ci) (hf : nk_ft F ci k = some f) : ∃ ds d, T[a]? = some (.inl (ci, ds)) ∧ ds[k]? = some d ∧ nk_okf T d f = true := by
  unfold nk_cl at t
  split at t
  · rename_i c ds h
    cases t
    have h1 := List.all_eq_true.mp hT _ (List.mem_of_getElem? h)
    dsimp only at h1
    unfold nk_ft at hf
    split at hf
    · rename_i fs h2
      rw [h2] at h1
      obtain ⟨d, hd, ho⟩ := nk_oks_get h1 hf
      exact ⟨ds, d, h, hd, ho⟩
    · cases hf
  · cases t
theorem nk_cr_eq {T : List nk_D} {a ci k : Nat} {ds : List (Nat × Nat)} {d : Nat × Nat} (h : T[a]? = some (.inl (ci, ds))) (hd : ds[k]? = some d) : nk_cr T a k = d.2 := by
  unfold nk_cr; rw [h]; dsimp only; rw [hd]
theorem nk_tc {T : List nk_D} {F : List (List (Nat × Nat × Nat))} (hT : nk_okT T F = true) {a ci k cj y : Nat} (t : nk_cl T a = some ci) (hf : nk_ft F ci k = some (2, cj, y)) : nk_cl T (nk_cr T a k) = some cj := by
  obtain ⟨ds, d, h1, h2, h3⟩ := nk_fd hT t hf
  rw [nk_cr_eq h1 h2]
  simp only [nk_okf, Bool.and_eq_true, beq_iff_eq] at h3
  exact h3.2
theorem nk_ta {T : List nk_D} {F : List (List (Nat × Nat × Nat))} (hT : nk_okT T F = true) {a ci k y n : Nat} (t : nk_cl T a = some ci) (hf : nk_ft F ci k = some (4, y, n)) : nk_ar T (nk_cr T a k) = some (y, n) := by
  obtain ⟨ds, d, h1, h2, h3⟩ := nk_fd hT t hf
  rw [nk_cr_eq h1 h2]
  simp only [nk_okf, Bool.and_eq_true, beq_iff_eq] at h3
  exact h3.2
theorem nk_ar_T {T : List nk_D} {a : Nat} {q : Nat × Nat} (t : nk_ar T a = some q) : T[a]? = some (.inr q) := by
  unfold nk_ar at t
  split at t
  · rename_i h; cases t; exact h
  · cases t
theorem nk_cl_T {T : List nk_D} {a ci : Nat} (t : nk_cl T a = some ci) : ∃ ds, T[a]? = some (.inl (ci, ds)) := by
  unfold nk_cl at t
  split at t
  · rename_i ds h; cases t; exact ⟨ds, h⟩
  · cases t
/-! writes -/
def nk_wi (S : nk_S) (a k : Nat) (x : Int) : nk_S := (fun b i => if b = a ∧ i = k then x else S.1 b i, S.2)
def nk_wr (S : nk_S) (a k : Nat) (r : Nat) : nk_S := (S.1, fun b i => if b = a ∧ i = k then r else S.2 b i)
def nk_cp (S : nk_S) (a0 sp a dp n : Nat) : nk_S := (fun b i => if b = a ∧ dp ≤ i ∧ i < dp + n then S.1 a0 (sp + (i - dp)) else S.1 b i, S.2)
theorem nk_fo_ne {T : List nk_D} {S S' : nk_S} {a k : Nat} {e : Nat × Nat} {v : Value} (h1 : S'.1 a k = S.1 a k) (h2 : S'.2 a k = S.2 a k) (h : nk_fo T S a k e v) : nk_fo T S' a k e v := by
  unfold nk_fo at h ⊢
  rw [h1, h2]
  exact h
theorem nk_ce_ne {T : List nk_D} {S S' : nk_S} {a : Nat} {d : nk_D} {c : mi_C} (h1 : ∀ k, S'.1 a k = S.1 a k) (h2 : ∀ k, S'.2 a k = S.2 a k) (h : nk_ce T S a d c) : nk_ce T S' a d c := by
  match d, h with
  | .inl (ci, ds), ⟨fs, e1, e2, e3⟩ =>
    exact ⟨fs, e1, e2, fun k e he => by obtain ⟨v, g1, g2⟩ := e3 k e he; exact ⟨v, g1, nk_fo_ne (h1 k) (h2 k) g2⟩⟩
  | .inr (t, n), ⟨p1, p2, q⟩ =>
    refine ⟨p1, p2, ?_⟩
    rcases q with ⟨g0, xs, g1, g2⟩ | ⟨g0, xs, g1, g2⟩
    · exact Or.inl ⟨g0, xs, g1, fun i hi => by rw [h1]; exact g2 i hi⟩
    · exact Or.inr ⟨g0, xs, g1, fun i hi => by rw [h1]; exact g2 i hi⟩
/-- one cell is written -/
theorem nk_rp_set {T : List nk_D} {S S' : nk_S} {h : List mi_C} {a : Nat} {d : nk_D} {c : mi_C} (hr : nk_rp T S h) (hd : T[a]? = some d) (h1 : ∀ b, a ≠ b → ∀ k, S'.1 b k = S.1 b k) (h2 : ∀ b, a ≠ b → ∀ k, S'.2 b k = S.2 b k) (hc : nk_ce T S' a d c) : nk_rp T S' (h.set a c) := by
  refine ⟨by rw [List.length_set]; exact hr.1, fun b e hb => ?_⟩
  by_cases hab : a = b
  · subst hab
    rw [hd] at hb
    cases hb
    obtain ⟨c0, g, -⟩ := hr.2 a d hd
    exact ⟨c, mi_gs g, hc⟩
  · obtain ⟨c0, g, k⟩ := hr.2 b e hb
    exact ⟨c0, mi_gn g hab, nk_ce_ne (h1 b hab) (h2 b hab) k⟩
