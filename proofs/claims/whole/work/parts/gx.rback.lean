/-! The run: the reference goes back to the body that called. -/
section RBK
variable {p : jP} {m m' m1 : jM} {P Q : Nat} {tx : List (List Int)} {x : jC} {t : Nat → Int} {inp : Nat → Int} {S S' S1 : nk_S} {A : jA} {σ : jG} {i : Nat} {v : jV}
/-- the top body is left -/
theorem r_bck (h : rMn p S m) (hd : m.d ≠ 0) : rxF S (nk_wi S 121 52 (m.d : Int)) ∧ rMm p (nk_wi S 121 52 (m.d : Int)) m.bck := by
  obtain ⟨⟨⟨d1, d2⟩, h2, h3, h4⟩, hH, hI⟩ := h
  have tn : ∀ a, a ≠ 121 → (nk_wi S 121 52 (m.d : Int)).1 a = S.1 a := fun a ha => wi_n ha
  have tf : ∀ f, f ≠ 52 → (nk_wi S 121 52 (m.d : Int)).1 121 f = S.1 121 f := fun f hf => by rw [wi_at, if_neg hf]
  refine ⟨rxF_w1 (by omega), ⟨⟨⟨⟨?_, show m.d - 1 < 64 by omega⟩, fun f hf => ?_, fun f k hf hk => ?_, fun f hf => ?_⟩, rHp_c (S := S) (fun g hg => tf g (by omega)) (fun a ha => tn a (by omega)) hH, rIo_c (S := S) (fun g hg => tf g (by omega)) (tn 249 (by decide)) hI⟩, ?_⟩⟩
  · rw [wi_at, if_pos rfl]
    show (m.d : Int) = ((m.d - 1 : Nat) : Int) + 1
    omega
  · have hf : f ≤ m.d - 1 := hf
    rw [tn 242 (by decide)]; exact h2 f (by omega)
  · have hf : f ≤ m.d - 1 := hf
    rw [tn 239 (by decide)]; exact h3 f k (by omega) hk
  · have hf : f < m.d - 1 := hf
    rw [tn 241 (by decide), tn 240 (by decide)]; exact h4 f (by omega)
  · have := h4 (m.d - 1) (by omega)
    unfold rFq
    rw [tn 241 (by decide), tn 240 (by decide)]
    exact this
/-- the reference goes back -/
theorem r_back (hwf : pWf tx p) (hk : pKX p Q) (h : rXx S P p A σ) (hm : mOk p m) (ht : mTop p m x t) (hM : rMm p S m) (ho : x.1 = 42 ∨ x.1 = 43) : rsO p A σ inp m (m.pc m.d) x S := by
  obtain ⟨b1, b3, b4, b5, b8⟩ := r_at hk hm ht
  have hst := r_ost hwf hk h ht.1 b4 (by omega)
  have hpre : ∃ (T : nk_S) (s0 : Int), ja_X13_objectStep 121 (x.1 : Int) (rA x) (m.pc m.d : Int) S = ja_X13_objectStep_b391 121 (x.1 : Int) (m.pc m.d : Int) s0 T ∧ rxF S T ∧ rMn p T m ∧ (x.1 = 42 → s0 = rV (m.top 0)) := by
    unfold ja_X13_objectStep
    rw [if_neg (by omega), if_neg (by omega), if_neg (by omega), if_neg (by omega), if_neg (by omega), if_neg (by omega), if_neg (by omega), if_neg (by omega), if_neg (by omega), if_neg (by omega), if_neg (by omega), if_neg (by omega)]
    rcases ho with q | q
    · have g2 := (kd_top hk ht).2.2.2.2.2.2.2 q
      obtain ⟨S1, a1, a2, a3⟩ := r_pop hM (by omega)
      exact ⟨S1, rV (m.top 0), by rw [if_pos (by omega), a1, bd_some], a2, rMm_n a3, fun _ => rfl⟩
    · exact ⟨S, 0, by rw [if_neg (by omega)], rxF_rfl, hM.1, fun z => by omega⟩
  obtain ⟨T, s0, e1, e2, e3, e4⟩ := hpre
  have d1 := e3.1.1.1
  rw [e1] at hst
  unfold ja_X13_objectStep_b391 at hst
  by_cases cd : m.d = 0
  · rw [if_pos (by omega)] at hst
    unfold ja_X13_ended at hst
    rw [lt_eq, lt_eq, bd_some, bd_some] at hst
    rcases ho with q | q
    · have ef := ef_42 (p := p) (inp := inp) (m := m) (i := m.pc m.d) (x := x) q
      rw [if_pos cd] at ef
      exact rp_st ef e2 e3.2.2 hst
    · have ef := ef_43 (p := p) (inp := inp) (m := m) (i := m.pc m.d) (x := x) q
      rw [if_pos cd] at ef
      exact rp_st ef e2 e3.2.2 hst
  · obtain ⟨x1, t1, y, xb, q1, q2, q3, q4, q5, q6, q7, q8, q9, q10, q11, q12, q13⟩ := bck_at hwf hk hm ht cd
    obtain ⟨f1, f2⟩ := r_bck e3 cd
    have ed : ∀ _ : Unit, nk_w (T.1 121 52 - 1) = (m.d : Int) := r_dw e3.1
    have hlt := at_lt q1
    have hl2 := hwf.1.2.2.2.2.2.2.2.2.2.2.1.1
    rw [if_neg (by omega), ed (), lt_eq] at hst
    rcases ho with q | q
    · have ef := ef_42 (p := p) (inp := inp) (m := m) (i := m.pc m.d) (x := x) q
      rw [if_neg cd] at ef
      rw [e4 q, if_pos (by omega)] at hst
      have hrs : xb.rs ≠ -1 := by
        obtain ⟨xb', h1, h2, h3⟩ := tH_g hk ht (by omega)
        have htk : tkT x.1 = 1 := by rw [q]; decide +kernel
        have w0 := h3 0 (by omega)
        have wn0 : wn x.1 0 = 9 := by rw [q]; rfl
        rw [wn0, htk] at w0
        rw [q8] at h1
        cases h1
        have w0 : (decide (xb.rs ≠ -1) && tLe p.2.1 (t (12 + m.hs m.d - 1 + 0)) xb.rs) = true := w0
        rw [Bool.and_eq_true] at w0
        exact of_decide_eq_true w0.1
      obtain ⟨S2, g1, g2, g3⟩ := r_push f2 (show m.hs (m.d - 1) < 8 by rw [q9] at hrs; rw [q10, if_neg hrs] at q12; omega) (m.top 0)
      obtain ⟨S3, k1, k2, k3⟩ := r_next g3 (show m.pc (m.d - 1) < 100000 by omega)
      refine rp_go ef ⟨S3, ?_, rxF_trans e2 (rxF_trans f1 (rxF_trans g2 k2)), k3⟩
      rw [hst]
      refine bd_0 ?_
      unfold ja_X13_objectStep_b430
      rw [g1, bd_some, k1, bd_some]
    · have ef := ef_43 (p := p) (inp := inp) (m := m) (i := m.pc m.d) (x := x) q
      rw [if_neg cd] at ef
      rw [if_neg (by omega)] at hst
      obtain ⟨S3, k1, k2, k3⟩ := r_next f2 (show m.pc (m.d - 1) < 100000 by omega)
      refine rp_go ef ⟨S3, ?_, rxF_trans e2 (rxF_trans f1 k2), k3⟩
      rw [hst]
      refine bd_0 ?_
      unfold ja_X13_objectStep_b430
      rw [k1, bd_some]
end RBK
