/-! The cells that the constructors leave, told by functions. -/
def js_v (v : Value) : Int := match v with
  | .int y => y.toInt
  | .long y => y.toInt
  | _ => 0
def js_r (v : Value) : Nat := match v with
  | .ref a => a
  | _ => 0
def js_a (c : Option mi_C) (k : Nat) : Int := match c with
  | some (.inl (_, fs)) => (match fs[k]? with
    | some v => js_v v
    | none => 0)
  | some (.inr (_, _, .inl xs)) => (xs.getD k 0).toInt
  | some (.inr (_, _, .inr xs)) => (xs.getD k 0).toInt
  | none => 0
def js_b (c : Option mi_C) (k : Nat) : Nat := match c with
  | some (.inl (_, fs)) => (match fs[k]? with
    | some v => js_r v
    | none => 0)
  | _ => 0
def js_S (h : List mi_C) : nk_S := (fun a k => js_a h[a]? k, fun a k => js_b h[a]? k)
def js_f (T : List nk_D) (d : Nat × Nat) (v : Value) : Bool := match d.1, v with
  | 0, .int _ => true
  | 1, .long _ => true
  | 2, .ref a => a == d.2
  | 3, .ref a => nk_cl T a == some d.2
  | _, _ => false
def js_fs (T : List nk_D) : List (Nat × Nat) → List Value → Bool
  | [], [] => true
  | d :: ds, v :: vs => js_f T d v && js_fs T ds vs
  | _, _ => false
def js_c (T : List nk_D) (d : nk_D) (c : mi_C) : Bool := match d, c with
  | .inl (ci, ds), .inl (cj, fs) => ci == cj && js_fs T ds fs
  | .inr (t, n), .inr (u, m, .inl xs) => t == u && n == m && !(t == 2) && decide (t < 4) && decide (n < 2147483648) && (!(t == 0) || xs.all (fun x => decide (-128 ≤ x.toInt ∧ x.toInt < 128))) && (!(t == 3) || xs.all (fun x => decide (x.toInt = 0 ∨ x.toInt = 1)))
  | .inr (t, n), .inr (u, m, .inr _) => t == 2 && u == 2 && n == m && decide (n < 2147483648)
  | _, _ => false
def js_h (T : List nk_D) : List nk_D → List mi_C → Bool
  | [], [] => true
  | d :: ds, c :: cs => js_c T d c && js_h T ds cs
  | _, _ => false
theorem js_f_ok {T : List nk_D} {S : nk_S} {a k : Nat} {d : Nat × Nat} {v : Value} (h : js_f T d v = true) (h1 : S.1 a k = js_v v) (h2 : S.2 a k = js_r v) : nk_fo T S a k d v := by
  obtain ⟨d1, d2⟩ := d
  unfold js_f at h
  unfold nk_fo
  split at h
  · rename_i e1 e2
    have e2 : d1 = 0 := e2
    subst e2
    exact ⟨_, rfl, h1.symm⟩
  · rename_i e1 e2
    have e2 : d1 = 1 := e2
    subst e2
    exact ⟨_, rfl, h1.symm⟩
  · rename_i e1 e2
    have e2 : d1 = 2 := e2
    subst e2
    have := beq_iff_eq.mp h
    dsimp only at this ⊢
    rw [this]
    rfl
  · rename_i e1 e2
    have e2 : d1 = 3 := e2
    subst e2
    have := beq_iff_eq.mp h
    dsimp only at this ⊢
    rw [h2]
    exact ⟨rfl, this⟩
  · cases h
theorem js_fs_ok {T : List nk_D} : ∀ {ds : List (Nat × Nat)} {vs : List Value}, js_fs T ds vs = true → vs.length = ds.length ∧ ∀ (k : Nat) (e : Nat × Nat), ds[k]? = some e → ∃ v, vs[k]? = some v ∧ js_f T e v = true := by
  intro ds
  induction ds with
  | nil =>
    intro vs h
    cases vs with
    | nil => exact ⟨rfl, fun k e q => by simp at q⟩
    | cons v vs => cases h
  | cons d ds ih =>
    intro vs h
    cases vs with
    | nil => cases h
    | cons v vs =>
      have h : (js_f T d v && js_fs T ds vs) = true := h
      rw [Bool.and_eq_true] at h
      obtain ⟨i1, i2⟩ := ih h.2
      refine ⟨by simp [i1], fun k e q => ?_⟩
      cases k with
      | zero =>
        simp at q
        subst q
        exact ⟨v, by simp, h.1⟩
      | succ k =>
        simp at q
        obtain ⟨w, w1, w2⟩ := i2 k e q
        exact ⟨w, by simpa using w1, w2⟩
theorem js_h_ok {T : List nk_D} : ∀ {ds : List nk_D} {cs : List mi_C}, js_h T ds cs = true → cs.length = ds.length ∧ ∀ (k : Nat) (e : nk_D), ds[k]? = some e → ∃ c, cs[k]? = some c ∧ js_c T e c = true := by
  intro ds
  induction ds with
  | nil =>
    intro cs h
    cases cs with
    | nil => exact ⟨rfl, fun k e q => by simp at q⟩
    | cons v vs => cases h
  | cons d ds ih =>
    intro cs h
    cases cs with
    | nil => cases h
    | cons v vs =>
      have h : (js_c T d v && js_h T ds vs) = true := h
      rw [Bool.and_eq_true] at h
      obtain ⟨i1, i2⟩ := ih h.2
      refine ⟨by simp [i1], fun k e q => ?_⟩
      cases k with
      | zero =>
        simp at q
        subst q
        exact ⟨v, by simp, h.1⟩
      | succ k =>
        simp at q
        obtain ⟨w, w1, w2⟩ := i2 k e q
        exact ⟨w, by simpa using w1, w2⟩
theorem js_all {xs : List Int32} {p : Int32 → Bool} (h : xs.all p = true) (h0 : p 0 = true) (i : Nat) : p (xs.getD i 0) = true := by
  rw [List.getD_eq_getElem?_getD]
  cases hx : xs[i]? with
  | none => exact h0
  | some y =>
    rw [Option.getD_some]
    exact List.all_eq_true.mp h y (List.mem_of_getElem? hx)
theorem js_ce {T : List nk_D} {h : List mi_C} {a : Nat} {d : nk_D} {c : mi_C} (hc : h[a]? = some c) (hk : js_c T d c = true) : nk_ce T (js_S h) a d c := by
  have s1 : ∀ k, (js_S h).1 a k = js_a (some c) k := fun k => by unfold js_S; dsimp only; rw [hc]
  have s2 : ∀ k, (js_S h).2 a k = js_b (some c) k := fun k => by unfold js_S; dsimp only; rw [hc]
  unfold js_c at hk
  split at hk
  · rename_i ci ds cj fs
    rw [Bool.and_eq_true] at hk
    have e := beq_iff_eq.mp hk.1
    subst e
    obtain ⟨i1, i2⟩ := js_fs_ok hk.2
    refine ⟨fs, rfl, i1, fun k e q => ?_⟩
    obtain ⟨v, v1, v2⟩ := i2 k e q
    refine ⟨v, v1, js_f_ok v2 ?_ ?_⟩
    · rw [s1]; unfold js_a; dsimp only; rw [v1]
    · rw [s2]; unfold js_b; dsimp only; rw [v1]
  · rename_i t n u m xs
    simp only [Bool.and_eq_true, Bool.or_eq_true, beq_iff_eq, Bool.not_eq_true', decide_eq_true_eq, beq_eq_false_iff_ne, ne_eq] at hk
    obtain ⟨⟨⟨⟨⟨⟨e1, e2⟩, e3⟩, e4⟩, e5⟩, e6⟩, e7⟩ := hk
    subst e1
    subst e2
    refine ⟨e4, e5, Or.inl ⟨e3, xs, rfl, fun i hi => ⟨by rw [s1]; rfl, ?_⟩⟩⟩
    rw [s1]
    show nk_rg t (xs.getD i 0).toInt
    refine ⟨fun q => ?_, fun q => ?_⟩
    · have := js_all (e6.resolve_left (fun z => z q)) (by decide) i
      exact of_decide_eq_true this
    · have := js_all (e7.resolve_left (fun z => z q)) (by decide) i
      exact of_decide_eq_true this
  · rename_i t n u m xs
    simp only [Bool.and_eq_true, beq_iff_eq, decide_eq_true_eq] at hk
    obtain ⟨⟨⟨e1, e2⟩, e3⟩, e4⟩ := hk
    subst e1
    subst e2
    subst e3
    exact ⟨by decide, e4, Or.inr ⟨rfl, xs, rfl, fun i hi => by rw [s1]; rfl⟩⟩
  · cases hk
theorem js_rp {T : List nk_D} {h : List mi_C} (hc : js_h T T h = true) : nk_rp T (js_S h) h := by
  obtain ⟨i1, i2⟩ := js_h_ok hc
  refine ⟨i1, fun a d q => ?_⟩
  obtain ⟨c, c1, c2⟩ := i2 a d q
  exact ⟨c, c1, js_ce c1 c2⟩
theorem js_k1 : nk_rp ja_Tt (js_S k1h208) k1h208 := js_rp (by decide +kernel)
