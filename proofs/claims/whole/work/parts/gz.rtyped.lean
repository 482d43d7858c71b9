/-! The run: the reference asks for types, without premises. -/
section RTZ
variable {p : jP} {m m' m1 : jM} {P Q : Nat} {tx : List (List Int)} {x : jC} {t : Nat → Int} {inp : Nat → Int} {S S' S1 : nk_S} {A : jA} {σ : jG} {i : Nat} {v : jV}
theorem cst_3 (hwf : pWf tx p) (hk : pKX p Q) (ht : mTop p m x t) (ho : x.1 = 37 ∨ x.1 = 38) : 3 ≤ x.2.1 := by
  obtain ⟨⟨xb0, e, hp⟩, -, hV⟩ := m_at hk ht
  obtain ⟨⟨p1, -⟩, -⟩ := id hp
  obtain ⟨f7, f8⟩ := fK_78
  have htk := (p1.2.2.2.2.1 (by first | (rcases ho with q | q; (rw [q]; exact Or.inr f7); (rw [q]; exact Or.inr f8)))).1
  have := (tOk_V (us := p.2.1) htk hwf.1.2.1)
  have hne := (hk.2.1.2.2.2.2.2.2.2.2.2 _ x ht.1).2.1 ho
  omega
theorem r_typ2 (hwf : pWf tx p) (hk : pKX p Q) (h : rXx S P p A σ) (hm : mOk p m) (ht : mTop p m x t) (hM : rMm p S m) (ho : x.1 = 37 ∨ x.1 = 38) : rsO p A σ inp m (m.pc m.d) x S := r_type hwf hk h hm ht hM ho (cst_at hwf hk hm ht ho).2.2.2.1 (cst_3 hwf hk ht ho)
end RTZ
