/-! What is true of every body of a program. -/
theorem rs_rg {tx ns : List (List Int)} {bl : List jB} (h : bTx tx ns bl) : ∀ y ∈ bl, y.rs = -1 ∨ 1 ≤ y.rs := by
  intro y hy
  obtain ⟨e, -, -, h2, -⟩ := h y hy
  have e2 : y.rs = tyC ns (tx.getD ((pT tx ns 20000 (y.tk + 3)).2 + 1) []) := by
    conv => lhs; rw [e]
    rfl
  have := tyC_rg ns (tx.getD ((pT tx ns 20000 (y.tk + 3)).2 + 1) [])
  rw [← e2] at this
  omega
theorem p_wf {tx : List (List Int)} (h : (fProg tx 20000 20000 0).1 = true) (hr : rsv tx = none) (hok : pOk tx (pgm tx)) : (∀ (b : Nat) (x : jB) (e : Nat × Nat × Nat × Nat), (pgm tx).2.2.2.1[b]? = some x → (pgm tx).2.2.2.2.2[b]? = some e → wB (pgm tx).1 (pgm tx).2.1 (pgm tx).2.2.1 (pgm tx).2.2.2.1 (pgm tx).2.2.2.2.1 b x e) ∧ wA (pgm tx).2.2.2.2.1 (pgm tx).2.2.2.1.length (pgm tx).2.2.2.2.2 := by
  have h32 := hok.2.2.2.1
  have hend := fCls_end (tx := tx) 20000 0 kC8 us8 h (by rw [kC8_len]; rfl) (by rw [kC8_len]; omega)
  unfold rsv at hr
  unfold pgm at h32 ⊢
  obtain ⟨R1, hR1⟩ : ∃ R1, R1 = fCls tx 20000 0 kC8 us8 := ⟨_, rfl⟩
  rw [← hR1] at hr hend h32 ⊢
  obtain ⟨r1, ns, us⟩ := R1
  cases r1 with
  | some y => cases hr
  | none =>
    dsimp only at hr hend h32 ⊢
    obtain ⟨e1, e2, e3⟩ := hend rfl
    rw [kC8_len] at e2 e3
    have hcl : ∀ k, k < ns.length - 8 → clsK tx (cAt tx k) := fun k hk => e3 k (by omega) hk
    have hpos := fMcs_pos (tx := tx) (ns := ns) (us := us) hcl 64 8 [] [] (by omega) ⟨fun x hx => (by cases hx), fun a b x y _ hx => by cases hx⟩
    obtain ⟨R2, hR2⟩ : ∃ R2, R2 = fMcs tx ns us 64 8 [] [] := ⟨_, rfl⟩
    have hl48 : R2.2.2.length ≤ 48 := by
      have := hok.2.2.2.2.2.2.1.1
      unfold pgm at this
      rw [← hR1] at this
      dsimp only at this
      rw [← hR2] at this
      exact this
    rw [← hR2] at hr hpos ⊢
    obtain ⟨r2, fl, bl⟩ := R2
    cases r2 with
    | some y => cases hr
    | none =>
      dsimp only at hr hpos hl48 ⊢
      obtain ⟨pp, hpp⟩ := hpos rfl
      have hw := fLn_w (us := us) (fl := fl) h32 hpp 64 0 ([], [], [], []) [] (by omega) (by omega) rfl (fun b' x e _ he => by cases he) ⟨fun i y hy => (by cases hy), fun k y hy => by cases hy⟩
      obtain ⟨R3, hR3⟩ : ∃ R3, R3 = fLn tx ns us fl bl 64 0 ([], [], [], []) [] := ⟨_, rfl⟩
      rw [← hR3] at hr hw ⊢
      obtain ⟨r3, z, el⟩ := R3
      cases r3 with
      | some y => cases hr
      | none => exact hw rfl
/-- every body bears a look at its heights -/
theorem p_hBd {tx : List (List Int)} {p : jP} (hok : pOk tx p) (hw : ∀ (b : Nat) (x : jB) (e : Nat × Nat × Nat × Nat), p.2.2.2.1[b]? = some x → p.2.2.2.2.2[b]? = some e → wB p.1 p.2.1 p.2.2.1 p.2.2.2.1 p.2.2.2.2.1 b x e) (hA : wA p.2.2.2.2.1 p.2.2.2.1.length p.2.2.2.2.2) {b : Nat} {x : jB} {e : Nat × Nat × Nat × Nat} (hx : p.2.2.2.1[b]? = some x) (he : p.2.2.2.2.2[b]? = some e) : hBd p.2.2.2.1 p.2.2.2.2.1 b e := by
  obtain ⟨o1, o2, o3, o4, o5, o6, o7, o8, o9, o10, o11, o12, o13⟩ := hok
  refine ⟨fun y hy => ?_, fun k y hy => ?_, fun i y h1 h2 hy hf => ?_⟩
  · obtain ⟨n, hn⟩ := List.getElem?_of_mem hy
    exact (bTx_12 o8 hn).1
  · have h1 := hA.2 k y hy
    obtain ⟨x', hx'⟩ : ∃ x', p.2.2.2.1[y.1]? = some x' := ⟨_, List.getElem?_eq_getElem h1⟩
    obtain ⟨e', he'⟩ : ∃ e', p.2.2.2.2.2[y.1]? = some e' := ⟨p.2.2.2.2.2[y.1]'(by omega), List.getElem?_eq_getElem (by omega)⟩
    have w := hw y.1 x' e' hx' he'
    have r := w.2.2.2.2.2.2.2 k y hy rfl
    have l := w.2.2.1
    have r2 := r.2.2.2.2.2.1
    omega
  · have w := hw b x e hx he
    have hc := w.1
    unfold clz at hc
    have hlen : e.2.1 ≤ p.2.2.2.2.1.1.length := w.2.2.1
    rw [Bool.and_eq_true, List.length_take, Nat.min_eq_left hlen] at hc
    by_cases c : i + 1 < e.2.1
    · exact c
    · exfalso
      have ei : i = e.2.1 - 1 := by omega
      have h2' := hc.2
      rw [List.getElem?_take_of_lt (by omega), ← ei, hy] at h2'
      have h3 : decide (y.1 = 19 ∨ y.1 = 41 ∨ y.1 = 42 ∨ y.1 = 43) = true := h2'
      unfold fal at hf
      rw [h3] at hf
      cases hf
/-- what the class's looks see -/
theorem p_cHv {tx : List (List Int)} {p : jP} {S : nk_S} {Q : Nat} (hok : pOk tx p) (hp : cPg S Q p) (h86 : S.2 86 0 = Q) : cHv S Q p.2.2.2.1 p.2.2.2.2.1 p.2.2.2.2.2 := by
  obtain ⟨o1, o2, o3, o4, o5, o6, o7, o8, o9, o10, o11, o12, o13⟩ := hok
  obtain ⟨q1, q2, q3, q4, q5, q6, q7, q8, q9, q10⟩ := hp
  exact ⟨h86, q9.1, q9.2.2.1, q7, fun b y hy => ⟨(q6 b y hy).2.2.1, (q6 b y hy).2.2.2.2.1⟩, o7.1, o11.1, o11.2.2.1, o12⟩
theorem p_rHv {tx : List (List Int)} {p : jP} {S : nk_S} {P : Nat} (hok : pOk tx p) (hp : rPg S P p) : rHv S P p.2.2.2.1 p.2.2.2.2.1 p.2.2.2.2.2 := by
  obtain ⟨o1, o2, o3, o4, o5, o6, o7, o8, o9, o10, o11, o12, o13⟩ := hok
  obtain ⟨q1, q2, q3, q4, q5, q6, q7, q8, q9, q10, q11, q12, q13, q14⟩ := hp
  exact ⟨q10, q13, q8, fun b y hy => ⟨(q7 b y hy).2.2.1, (q7 b y hy).2.2.2.2.1⟩, o7.1, o11.1, o11.2.2.1, o12, rs_rg o8⟩
