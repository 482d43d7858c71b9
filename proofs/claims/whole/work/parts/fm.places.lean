/-! Places of fields: their values; fields stand in the order of their classes. -/
/-- the fields stand in the order of their classes -/
def fSt (fl : List (List Int × Nat × Int)) : Prop := ∀ (f g : Nat) (x y : List Int × Nat × Int), f < g → fl[f]? = some x → fl[g]? = some y → x.2.1 ≤ y.2.1
section FST
variable {tx ns : List (List Int)} {us : List Int}
theorem fSt_add {fl : List (List Int × Nat × Int)} {c : Nat} {n : List Int} {t : Int} (h : fSt fl) (hc : ∀ x ∈ fl, x.2.1 ≤ c) : fSt (fl ++ [(n, c, t)]) ∧ ∀ x ∈ fl ++ [(n, c, t)], x.2.1 ≤ c := by
  refine ⟨fun f g x y hfg hx hy => ?_, fun x hx => ?_⟩
  · by_cases hg : g < fl.length
    · rw [List.getElem?_append_left hg] at hy
      rw [List.getElem?_append_left (by omega)] at hx
      exact h f g x y hfg hx hy
    · have hgl := at_lt hy
      rw [List.length_append] at hgl
      have hgl : g < fl.length + 1 := hgl
      have eg : g = fl.length := by omega
      rw [eg, List.getElem?_append_right (Nat.le_refl _), Nat.sub_self] at hy
      cases hy
      rw [List.getElem?_append_left (by omega)] at hx
      exact hc x (List.mem_of_getElem? hx)
  · rcases List.mem_append.mp hx with q | q
    · exact hc x q
    · rcases List.mem_singleton.mp q with rfl
      exact Nat.le_refl _
theorem fMem_st {c : Nat} : ∀ (d a : Nat) (fl : List (List Int × Nat × Int)) (bl : List jB), fSt fl → (∀ x ∈ fl, x.2.1 ≤ c) → fSt (fMem tx ns us c d a fl bl).2.1 ∧ ∀ x ∈ (fMem tx ns us c d a fl bl).2.1, x.2.1 ≤ c := by
  intro d
  induction d with
  | zero => intro a fl bl h1 h2; exact ⟨h1, h2⟩
  | succ d ih =>
    intro a fl bl h1 h2
    rw [fMem]
    by_cases c58 : fW tx 58 a = true
    · rw [if_pos c58]; exact ⟨h1, h2⟩
    rw [if_neg c58]
    by_cases c49 : fW tx 49 a = true
    · rw [if_pos c49]
      unfold fStep
      by_cases d1 : 0 ≤ fdL us c (tx.getD (a + 1) []) fl 0 ∨ 48 ≤ fl.length
      · rw [if_pos d1]; exact ⟨h1, h2⟩
      · rw [if_neg d1]
        by_cases d2 : tyC ns (tx.getD (a + 2) []) = -2
        · rw [if_pos d2]; exact ⟨h1, h2⟩
        · rw [if_neg d2]
          obtain ⟨q1, q2⟩ := fSt_add (c := c) (n := tx.getD (a + 1) []) (t := tyC ns (tx.getD (a + 2) [])) h1 h2
          exact ih _ _ _ q1 q2
    · rw [if_neg c49]
      cases hb : bStep tx ns us c a bl with
      | mk o l =>
        cases o with
        | some y => exact ⟨h1, h2⟩
        | none => exact ih _ _ _ h1 h2
theorem fMcs_st : ∀ (d c : Nat) (fl : List (List Int × Nat × Int)) (bl : List jB), fSt fl → (∀ x ∈ fl, x.2.1 < c) → fSt (fMcs tx ns us d c fl bl).2.1 := by
  intro d
  induction d with
  | zero => intro c fl bl h1 _; exact h1
  | succ d ih =>
    intro c fl bl h1 h2
    rw [fMcs]
    by_cases hc : ns.length ≤ c
    · rw [if_pos hc]; exact h1
    · rw [if_neg hc]
      obtain ⟨q1, q2⟩ := fMem_st (tx := tx) (ns := ns) (us := us) (c := c) 20000 (cAt tx (c - 8) + 5) fl bl h1 (fun x hx => Nat.le_of_lt (h2 x hx))
      cases hm : fMem tx ns us c 20000 (cAt tx (c - 8) + 5) fl bl with
      | mk o r =>
        rw [hm] at q1 q2
        cases o with
        | some y => exact q1
        | none => exact ih (c + 1) r.1 r.2 q1 (fun x hx => Nat.lt_succ_of_le (q2 x hx))
theorem pgm_st : fSt (pgm tx).2.2.1 := fMcs_st 64 8 [] [] (fun f g x y _ hx => by cases hx) (fun x hx => by cases hx)
end FST
section CPL
variable {us : List Int} {fl : List (List Int × Nat × Int)} {Q : Nat}
theorem cnt_drop {f c : Nat} (h : ∀ (g : Nat) (x : List Int × Nat × Int), f ≤ g → fl[g]? = some x → c < x.2.1) : cntF (fl.take f) c = cntF fl c := by
  conv => rhs; rw [← List.take_append_drop f fl]
  unfold cntF
  rw [List.filter_append, List.length_append]
  have : (fl.drop f).filter (fun x => decide (x.2.1 = c)) = [] := by
    rw [List.filter_eq_nil_iff]
    intro x hx
    obtain ⟨g, hg, e⟩ := List.mem_iff_getElem.mp hx
    have hg' : fl[f + g]? = some x := by rw [← List.getElem?_drop, List.getElem?_eq_getElem hg, e]
    have := h (f + g) x (by omega) hg'
    rw [decide_eq_true_eq]
    omega
  rw [this]
  rfl
theorem nOf_8 (hu : uOk us) (h32 : us.length ≤ 32) (h8 : ∀ (f : Nat) (y : List Int × Nat × Int), fl[f]? = some y → 8 ≤ y.2.1) : ∀ c, c < 8 → c < us.length → nOf us fl c = 0 := by
  intro c
  induction c using Nat.strongRecOn with
  | ind c ih =>
    intro h1 h2
    rw [nOf_eq hu h32 h2]
    have e1 : cntF fl c = 0 := by
      rw [← cnt_drop (f := 0) (c := c) (fun g x _ hx => by have := h8 g x hx; omega)]
      rfl
    have e2 : nUp us fl c = 0 := by
      unfold nUp
      by_cases q : c = 0
      · subst q; rw [hu.1, if_pos (by decide)]
      · obtain ⟨u, u1, u2⟩ := hu.2 c (by omega) h2
        rw [u1, if_neg (by omega), Int.toNat_natCast]
        exact ih u u2 (by omega) (by omega)
    omega
/-- the fields of a class get their places -/
theorem c_plF2 (hQ : Q = 13 ∨ Q = 49) (h48 : fl.length ≤ 48) (hs : fSt fl) {c : Nat} (hc : c < 32) (hn : nUp us fl c ≤ 100000) (hno : nOf us fl c = nUp us fl c + cntF fl c) {rec5 : Nat → Int → Int → nk_S → Option (Int × nk_S)} : ∀ (d f m : Nat) (T : nk_S), f + d = fl.length → d < m → T.1 (Q + 1) 4 = (fl.length : Int) → (∀ (f : Nat) (x : List Int × Nat × Int), fl[f]? = some x → T.1 (Q + 6) f = (x.2.1 : Int)) → (∀ (g : Nat) (x : List Int × Nat × Int), f ≤ g → fl[g]? = some x → c ≤ x.2.1) → (∀ (g : Nat) (x : List Int × Nat × Int), g < f → fl[g]? = some x → x.2.1 < c + 1 ∧ T.1 (Q + 8) g = ((nUp us fl x.2.1 + cntF (fl.take g) x.2.1 : Nat) : Int)) → T.1 (Q + 4) c = ((nUp us fl c + cntF (fl.take f) c : Nat) : Int) → ∃ f' T', f' ≤ fl.length ∧ ja_X1_placeFields_L30 rec5 m (Q + 1) (f : Int) (c : Int) T = rec5 (Q + 1) (f' : Int) ((c + 1 : Nat) : Int) T' ∧ T'.2 = T.2 ∧ (∀ a, a ≠ Q + 4 → a ≠ Q + 8 → T'.1 a = T.1 a) ∧ (∀ k, k ≠ c → T'.1 (Q + 4) k = T.1 (Q + 4) k) ∧ (∀ (g : Nat) (x : List Int × Nat × Int), f' ≤ g → fl[g]? = some x → c + 1 ≤ x.2.1) ∧ (∀ (g : Nat) (x : List Int × Nat × Int), g < f' → fl[g]? = some x → x.2.1 < c + 1 ∧ T'.1 (Q + 8) g = ((nUp us fl x.2.1 + cntF (fl.take g) x.2.1 : Nat) : Int)) ∧ T'.1 (Q + 4) c = (nOf us fl c : Int) := by
  have e4 : ja_c (Q + 1) 6 = Q + 6 ∧ ja_c (Q + 1) 8 = Q + 8 ∧ ja_c (Q + 1) 3 = Q + 4 := by rcases hQ with rfl | rfl <;> exact ⟨rfl, rfl, rfl⟩
  have ec : ∀ _ : Unit, nk_w ((c : Int) + 1) = ((c + 1 : Nat) : Int) := fun _ => w_nat1 (by omega)
  intro d
  induction d with
  | zero =>
    intro f m T h1 h2 h3 h6 hlo hv h4
    obtain ⟨m, rfl⟩ : ∃ q, m = q + 1 := ⟨m - 1, by omega⟩
    have hf : f = fl.length := by omega
    refine ⟨f, T, by omega, ?_, rfl, fun _ _ _ => rfl, fun _ _ => rfl, fun g x hg hx => by have := at_lt hx; omega, hv, ?_⟩
    · show ja_X1_placeFields_b30 rec5 _ (Q + 1) _ _ _ = _
      unfold ja_X1_placeFields_b30
      rw [h3, if_pos (by omega), ec (), lt_eq]
    · rw [h4, hf, List.take_length, hno]
  | succ d ih =>
    intro f m T h1 h2 h3 h6 hlo hv h4
    obtain ⟨m, rfl⟩ : ∃ q, m = q + 1 := ⟨m - 1, by omega⟩
    have ef : ∀ _ : Unit, nk_w ((f : Int) + 1) = ((f + 1 : Nat) : Int) := fun _ => w_nat1 (by omega)
    obtain ⟨x, hx⟩ : ∃ x, fl[f]? = some x := ⟨_, List.getElem?_eq_getElem (by omega)⟩
    have hx6 := h6 f x hx
    have hcnt : cntF (fl.take f) c ≤ 48 := by
      unfold cntF
      have := List.length_filter_le (fun x : List Int × Nat × Int => decide (x.2.1 = c)) (fl.take f)
      rw [List.length_take] at this
      omega
    show ∃ f' T', f' ≤ fl.length ∧ ja_X1_placeFields_b30 rec5 (ja_X1_placeFields_L30 rec5 m) (Q + 1) _ _ _ = _ ∧ _
    unfold ja_X1_placeFields_b30
    rw [h3, if_neg (by omega), if_pos (in_i (N := 48) (by omega)), e4.1, e4.2.1, e4.2.2, Int.toNat_natCast, Int.toNat_natCast, hx6]
    by_cases q : x.2.1 = c
    · obtain ⟨T2, hT2⟩ : ∃ T2, T2 = nk_wi (nk_wi T (Q + 8) f (T.1 (Q + 4) c)) (Q + 4) c (nk_w ((nk_wi T (Q + 8) f (T.1 (Q + 4) c)).1 (Q + 4) c + 1)) := ⟨_, rfl⟩
      have tn : ∀ a, a ≠ Q + 4 → a ≠ Q + 8 → T2.1 a = T.1 a := fun a h1 h2 => by rw [hT2, wi_n h1, wi_n h2]
      have v8 : ∀ g, T2.1 (Q + 8) g = if g = f then T.1 (Q + 4) c else T.1 (Q + 8) g := fun g => by rw [hT2, wi_n (by omega), wi_at]
      have v4 : ∀ k, T2.1 (Q + 4) k = if k = c then nk_w (T.1 (Q + 4) c + 1) else T.1 (Q + 4) k := fun k => by
        rw [hT2, wi_at, wi_n (b := Q + 4) (by omega)]
      have e41 : nk_w (T.1 (Q + 4) c + 1) = ((nUp us fl c + cntF (fl.take (f + 1)) c : Nat) : Int) := by
        rw [h4, cnt_one hx, if_pos q, nk_w_id (by omega) (by omega)]
        omega
      obtain ⟨f', T', g1, g2, g3, g4, g5, g6, g7, g8⟩ := ih (f + 1) m T2 (by omega) (by omega) (by rw [tn (Q + 1) (by omega) (by omega)]; exact h3) (fun g y hy => by rw [tn (Q + 6) (by omega) (by omega)]; exact h6 g y hy) (fun g y hg hy => hlo g y (by omega) hy) (fun g y hg hy => by
        rw [v8]
        by_cases e : g = f
        · subst e
          rw [hx] at hy
          cases hy
          rw [if_pos rfl, h4, q]
          exact ⟨by omega, rfl⟩
        · rw [if_neg e]; exact hv g y (by omega) hy) (by rw [v4, if_pos rfl, e41])
      refine ⟨f', T', g1, ?_, by rw [g3, hT2]; rfl, fun a h1 h2 => by rw [g4 a h1 h2, tn a h1 h2], fun k hk => by rw [g5 k hk, v4, if_neg hk], g6, g7, g8⟩
      rw [if_pos (by omega), if_pos (in_i (N := 32) (by omega)), lt_eq, ← hT2, lt_eq, ef (), lt_eq]
      exact g2
    · have hgt : ∀ (g : Nat) (y : List Int × Nat × Int), f ≤ g → fl[g]? = some y → c < y.2.1 := fun g y hg hy => by
        have h0 := hlo f x (Nat.le_refl _) hx
        by_cases e : g = f
        · rw [e, hx] at hy
          cases hy
          omega
        · have := hs f g x y (by omega) hx hy
          omega
      refine ⟨f, T, by omega, ?_, rfl, fun _ _ _ => rfl, fun _ _ => rfl, fun g y hg hy => hgt g y hg hy, hv, ?_⟩
      · rw [if_neg (by omega), ec (), lt_eq]
      · rw [h4, cnt_drop hgt, hno]
theorem c_plL2 (hQ : Q = 13 ∨ Q = 49) (hu : uOk us) (h32 : us.length ≤ 32) (h48 : fl.length ≤ 48) (hs : fSt fl) (hfu : ∀ (f : Nat) (y : List Int × Nat × Int), fl[f]? = some y → y.2.1 < us.length) : ∀ (d c f m : Nat) (T : nk_S), c + d = us.length → 8 ≤ c → d < m → f ≤ fl.length → cU T Q us → T.1 (Q + 1) 4 = (fl.length : Int) → (∀ (f : Nat) (x : List Int × Nat × Int), fl[f]? = some x → T.1 (Q + 6) f = (x.2.1 : Int)) → (∀ (g : Nat) (x : List Int × Nat × Int), f ≤ g → fl[g]? = some x → c ≤ x.2.1) → (∀ (g : Nat) (x : List Int × Nat × Int), g < f → fl[g]? = some x → x.2.1 < c ∧ T.1 (Q + 8) g = ((nUp us fl x.2.1 + cntF (fl.take g) x.2.1 : Nat) : Int)) → (∀ k, k < c → T.1 (Q + 4) k = (nOf us fl k : Int)) → ∃ T', ja_X1_placeFields_L5 m (Q + 1) (f : Int) (c : Int) T = some (0, T') ∧ T'.2 = T.2 ∧ (∀ a, a ≠ Q + 4 → a ≠ Q + 8 → T'.1 a = T.1 a) ∧ (∀ k, k < us.length → T'.1 (Q + 4) k = (nOf us fl k : Int)) ∧ ∀ (g : Nat) (x : List Int × Nat × Int), fl[g]? = some x → T'.1 (Q + 8) g = ((nUp us fl x.2.1 + cntF (fl.take g) x.2.1 : Nat) : Int) := by
  have e4 : ja_c (Q + 1) 1 = Q + 2 ∧ ja_c (Q + 1) 3 = Q + 4 := by rcases hQ with rfl | rfl <;> exact ⟨rfl, rfl⟩
  intro d
  induction d with
  | zero =>
    intro c f m T h1 h8 h2 hf hU h4 h6 hlo hv hc
    obtain ⟨m, rfl⟩ : ∃ q, m = q + 1 := ⟨m - 1, by omega⟩
    refine ⟨T, ?_, rfl, fun _ _ _ => rfl, fun k hk => hc k (by omega), fun g x hx => ?_⟩
    · show ja_X1_placeFields_b5 _ (Q + 1) _ _ _ = _
      unfold ja_X1_placeFields_b5
      rw [hU.1, if_pos (by omega)]
    · by_cases q : g < f
      · exact (hv g x q hx).2
      · have := hlo g x (by omega) hx
        have := hfu g x hx
        omega
  | succ d ih =>
    intro c f m T h1 h8 h2 hf hU h4 h6 hlo hv hc
    obtain ⟨m, rfl⟩ : ∃ q, m = q + 1 := ⟨m - 1, by omega⟩
    obtain ⟨p, p1, p2⟩ := hu.2 c (by omega) (by omega)
    have hp : T.1 (Q + 2) c = (p : Int) := by rw [hU.2.1 c (by omega), p1]
    have hnU : nUp us fl c = nOf us fl p := by unfold nUp; rw [p1, if_neg (by omega), Int.toNat_natCast]
    obtain ⟨T1, hT1⟩ : ∃ T1, T1 = nk_wi T (Q + 4) c (T.1 (Q + 4) p) := ⟨_, rfl⟩
    have tn : ∀ a, a ≠ Q + 4 → T1.1 a = T.1 a := fun a h1 => by rw [hT1, wi_n h1]
    have t4 : ∀ k, k ≠ c → T1.1 (Q + 4) k = T.1 (Q + 4) k := fun k hk => by rw [hT1, wi_at, if_neg hk]
    have hcnt0 : cntF (fl.take f) c = 0 := by
      unfold cntF
      rw [List.length_eq_zero_iff, List.filter_eq_nil_iff]
      intro x hx
      obtain ⟨g, hg, e⟩ := List.mem_iff_getElem.mp hx
      have hgf : g < f := by rw [List.length_take] at hg; omega
      have hg' : fl[g]? = some x := by rw [← List.getElem?_take_of_lt hgf, List.getElem?_eq_getElem hg, e]
      have := (hv g x hgf hg').1
      rw [decide_eq_true_eq]
      omega
    have hle : nUp us fl c ≤ 100000 := by
      rw [hnU]
      have : nOf us fl p ≤ 64 * 48 := nOf_le h48 64 p
      omega
    obtain ⟨f', T2, g1, g2, g3, g4, g5, g6, g7, g8⟩ := c_plF2 (us := us) (rec5 := ja_X1_placeFields_L5 m) hQ h48 hs (c := c) (by omega) hle (nOf_eq hu h32 (by omega)) (fl.length - f) f nk_big T1 (by omega) (by obtain ⟨q, hq⟩ := big_ge 100 (by decide); omega) (by rw [tn _ (by omega)]; exact h4) (fun g x hx => by rw [tn _ (by omega)]; exact h6 g x hx) hlo (fun g x hg hx => by rw [tn _ (by omega)]; have := hv g x hg hx; exact ⟨by omega, this.2⟩) (by rw [hT1, wi_at, if_pos rfl, hc p p2, hcnt0, Nat.add_zero, hnU])
    have hU2 : cU T2 Q us := by
      unfold cU at hU ⊢
      rw [g4 (Q + 1) (by omega) (by omega), g4 (Q + 2) (by omega) (by omega), g4 (Q + 3) (by omega) (by omega), tn (Q + 1) (by omega), tn (Q + 2) (by omega), tn (Q + 3) (by omega)]
      exact hU
    obtain ⟨T3, k1, k2, k3, k4⟩ := ih (c + 1) f' m T2 (by omega) (by omega) (by omega) g1 hU2 (by rw [g4 (Q + 1) (by omega) (by omega), tn _ (by omega)]; exact h4) (fun g x hx => by rw [g4 (Q + 6) (by omega) (by omega), tn _ (by omega)]; exact h6 g x hx) g6 g7 (fun k hk => by
      by_cases q : k = c
      · rw [q]; exact g8
      · rw [g5 k q, t4 k q]; exact hc k (by omega))
    refine ⟨T3, ?_, by rw [k2, g3, hT1]; rfl, fun a h1 h2 => by rw [k3 a h1 h2, g4 a h1 h2, tn a h1], k4⟩
    show ja_X1_placeFields_b5 (ja_X1_placeFields_L5 m) (Q + 1) _ _ _ = _
    unfold ja_X1_placeFields_b5
    rw [hU.1, if_neg (by omega), if_pos (in_i (N := 32) (by omega)), e4.1, e4.2, Int.toNat_natCast, hp, if_pos (in_i (N := 32) (by omega)), Int.toNat_natCast, ← hT1, lt_eq, g2]
    exact k1
end CPL
