/-! Types of fields and bodies are types. -/
section PTY
variable {tx ns : List (List Int)} {us : List Int}
theorem tOk_V {t : Int} (h : tOk ns t) (hl : us.length = ns.length) : tV us t ∧ (t = 1 ∨ 3 ≤ t) := by
  unfold tV
  rcases h with h | h | ⟨c, h1, h2 | h2⟩ <;> omega
theorem fMem_ty {j : Nat} : ∀ (d a : Nat) (fl : List (List Int × Nat × Int)) (bl : List jB), (∀ y ∈ fl, tOk ns y.2.2) → (fMembers tx 20000 d a).1 = true → (fMem tx ns us j d a fl bl).1 = none → ∀ y ∈ (fMem tx ns us j d a fl bl).2.1, tOk ns y.2.2 := by
  intro d
  induction d with
  | zero => intro a fl bl _ h; cases h
  | succ d ih =>
    intro a fl bl hP h hn
    rw [fMembers] at h
    rw [fMem] at hn ⊢
    cases h58 : fW tx 58 a with
    | true => simp only [if_true]; exact hP
    | false =>
      rw [h58] at h hn
      simp only [Bool.false_eq_true, if_false] at h hn ⊢
      obtain ⟨h1, h2, h3⟩ := sq_ok h
      rcases mem_kind h1 with ⟨g1, g2, g3, g4⟩ | ⟨g1, g2⟩
      · rw [if_pos g1] at hn ⊢
        cases hs : fStep tx ns us j a fl with
        | mk r l =>
          rw [hs] at hn
          cases r with
          | some y => cases hn
          | none =>
            refine ih _ l bl ?_ h2 hn
            unfold fStep at hs
            by_cases c1 : 0 ≤ fdL us j (tx.getD (a + 1) []) fl 0 ∨ 48 ≤ fl.length
            · rw [if_pos c1] at hs; cases hs
            rw [if_neg c1] at hs
            by_cases c2 : tyC ns (tx.getD (a + 2) []) = -2
            · rw [if_pos c2] at hs; cases hs
            rw [if_neg c2] at hs
            cases hs
            intro y hy
            rcases List.mem_append.mp hy with e | e
            · exact hP y e
            · have e2 : y = (tx.getD (a + 1) [], j, tyC ns (tx.getD (a + 2) [])) := by simpa using e
              rw [e2]
              exact tyC_ok c2 g3
      · have h49 : ¬ fW tx 49 a = true := by rw [g1.1]; decide
        rw [if_neg h49] at hn ⊢
        cases hs : bStep tx ns us j a bl with
        | mk r l =>
          rw [hs] at hn
          cases r with
          | some y => cases hn
          | none => exact ih _ fl l hP h2 hn
theorem fMcs_ty (hcl : ∀ k, k < ns.length - 8 → clsK tx (cAt tx k)) : ∀ (d c : Nat) (fl : List (List Int × Nat × Int)) (bl : List jB), 8 ≤ c → (∀ y ∈ fl, tOk ns y.2.2) → (fMcs tx ns us d c fl bl).1 = none → ∀ y ∈ (fMcs tx ns us d c fl bl).2.1, tOk ns y.2.2 := by
  intro d
  induction d with
  | zero => intro c fl bl _ h _; exact h
  | succ d ih =>
    intro c fl bl h8 hP hn
    rw [fMcs] at hn ⊢
    by_cases q : ns.length ≤ c
    · rw [if_pos q] at hn ⊢; exact hP
    · rw [if_neg q] at hn ⊢
      obtain ⟨c0, c1, c2, c3, c4, c5, c6⟩ := hcl (c - 8) (by omega)
      cases hs : fMem tx ns us c 20000 (cAt tx (c - 8) + 5) fl bl with
      | mk r l =>
        obtain ⟨l, k⟩ := l
        rw [hs] at hn
        cases r with
        | some y => cases hn
        | none =>
          have := fMem_ty (ns := ns) (us := us) (j := c) 20000 (cAt tx (c - 8) + 5) fl bl hP c6 (by rw [hs])
          rw [hs] at this
          exact ih (c + 1) l k (by omega) this hn
theorem mis_n : ∀ (l : List Int) (a : Nat), mis l a < 0 → ∀ t ∈ l, t ≠ -2 := by
  intro l
  induction l with
  | nil => intro a _ t ht; cases ht
  | cons x l ih =>
    intro a h t ht
    rw [mis] at h
    by_cases c : x = -2
    · rw [if_pos c] at h; omega
    · rw [if_neg c] at h
      rcases List.mem_cons.mp ht with e | e
      · rw [e]; exact c
      · exact ih (a + 1) h t e
theorem tyC_53 : tyC ns (fx.getD 53 []) = -1 := by
  unfold tyC
  rw [if_neg (fun h => absurd (fx_inj 53 (by decide) 52 (by decide) h) (by decide)), if_neg (fun h => absurd (fx_inj 53 (by decide) 54 (by decide) h) (by decide)), if_pos rfl]
theorem b_ty {bl : List jB} (h : bTx tx ns bl) (hl : us.length = ns.length) (ho : bOk us bl) : ∀ x ∈ bl, (∀ t ∈ x.ps, tOk ns t) ∧ (x.rs = -1 ∨ tOk ns x.rs) := by
  intro x hx
  obtain ⟨e, hb, hm, h2, -⟩ := h x hx
  obtain ⟨z1, z2, z3, z4, z5, z6, z7⟩ := hd_kind (ns := ns) hb
  obtain ⟨p1, p2, p3, p4, p5, p6, p7⟩ := pT_ok (ns := ns) 20000 (x.tk + 3) z1
  have eps : x.ps = (if fW tx 51 x.tk = true then [((4 + 2 * x.ow : Nat) : Int)] else []) ++ (pT tx ns 20000 (x.tk + 3)).1 := by
    conv => lhs; rw [e]
    rfl
  have ers : x.rs = tyC ns (tx.getD ((pT tx ns 20000 (x.tk + 3)).2 + 1) []) := by
    conv => lhs; rw [e]
    rfl
  obtain ⟨n, hn⟩ := List.getElem?_of_mem hx
  have how := ho.2.1 n x hn
  constructor
  · intro t ht
    rw [eps] at ht
    rcases List.mem_append.mp ht with q | q
    · by_cases c : fW tx 51 x.tk = true
      · rw [if_pos c] at q
        have : t = ((4 + 2 * x.ow : Nat) : Int) := by simpa using q
        exact Or.inr (Or.inr ⟨x.ow, by omega, Or.inl (by omega)⟩)
      · rw [if_neg c] at q; cases q
    · obtain ⟨i, i1, i2, i3⟩ := p6 t q
      have := mis_n _ _ hm t q
      rw [i3] at this ⊢
      exact tyC_ok this i1
  · rw [ers] at h2 ⊢
    rcases z4 with q | q
    · left; rw [fW_at q]; exact tyC_53
    · exact Or.inr (tyC_ok h2 q)
end PTY
theorem p_fty {tx : List (List Int)} (h : (fProg tx 20000 20000 0).1 = true) (hr : rsv tx = none) : ∀ y ∈ (pgm tx).2.2.1, tOk (pgm tx).1 y.2.2 := by
  have hend := fCls_end (tx := tx) 20000 0 kC8 us8 h (by rw [kC8_len]; rfl) (by rw [kC8_len]; omega)
  unfold rsv at hr
  unfold pgm
  obtain ⟨R1, hR1⟩ : ∃ R1, R1 = fCls tx 20000 0 kC8 us8 := ⟨_, rfl⟩
  rw [← hR1] at hr hend ⊢
  obtain ⟨r1, ns, us⟩ := R1
  cases r1 with
  | some y => cases hr
  | none =>
    dsimp only at hr hend ⊢
    obtain ⟨e1, e2, e3⟩ := hend rfl
    rw [kC8_len] at e2 e3
    have hcl : ∀ k, k < ns.length - 8 → clsK tx (cAt tx k) := fun k hk => e3 k (by omega) hk
    have hty := fMcs_ty (tx := tx) (ns := ns) (us := us) hcl 64 8 [] [] (by omega) (fun y hy => by cases hy)
    obtain ⟨R2, hR2⟩ : ∃ R2, R2 = fMcs tx ns us 64 8 [] [] := ⟨_, rfl⟩
    rw [← hR2] at hr hty ⊢
    obtain ⟨r2, fl, bl⟩ := R2
    cases r2 with
    | some y => cases hr
    | none => exact hty rfl
