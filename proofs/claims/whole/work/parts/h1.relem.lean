/-! The run: the reference's elements. -/
section REL
variable {p : jP} {m m' m1 : jM} {P Q : Nat} {tx : List (List Int)} {x : jC} {t : Nat → Int} {inp : Nat → Int} {S S' S1 : nk_S} {A : jA} {σ : jG} {i : Nat} {v : jV}
/-- the reference reads an element -/
theorem r_elem (hwf : pWf tx p) (hk : pKX p Q) (h : rXx S P p A σ) (hm : mOk p m) (ht : mTop p m x t) (hM : rMm p S m) (ho : x.1 = 33) : rsO p A σ inp m (m.pc m.d) x S := by
  obtain ⟨b1, b3, b4, b5, b8⟩ := r_at hk hm ht
  have hst := r_ost hwf hk h ht.1 b4 (by omega)
  obtain ⟨g1, g2, g3⟩ := (kd_top hk ht).2.2.2.2.1 ho
  have w0 := (top_k ht (k := 0) (by omega)).2
  have w1 := (top_k ht (k := 1) (by omega)).2
  obtain ⟨S1, T, a1, a2, a3, a4⟩ := r_pop2 hM g3
  have ef := ef_33 (p := p) (inp := inp) (m := m) (i := m.pc m.d) (x := x) ho
  unfold ja_X13_objectStep ja_X13_objectStep_b116 ja_X13_elementStep ja_X13_elementStep_b14 ja_X13_elementStep_b71 ja_X13_elementStep_b162 at hst
  rw [if_neg (by omega), if_neg (by omega), if_neg (by omega), if_pos (by omega), if_neg (by omega), a1, bd_some, a2, bd_some, rV_i g1] at hst
  have e33 : (x.1 : Int) = 33 := by omega
  by_cases c0 : (m.top 1).2 = 0
  · rw [if_pos c0] at ef
    rw [if_pos ((rV_n g2).mpr c0), bd_rz, bd_rz, bd_rz] at hst
    exact rp_rz hwf hk hm h ht.1 b4 ef a3 (rMm_n a4) hst
  obtain ⟨o, o1, o2, o3⟩ := r_objT w1 g2 c0
  rw [if_neg c0, o3] at ef
  have hob : ja_X13_objectOf (rV (m.top 1)) T = some ((o : Int), T) := by rw [o2]; exact r_ob (by omega) T
  have h46 : T.1 246 o = (m.ext o : Int) := (a4.1.2.1.2.2.1 o o1).2.2.2
  have h45 : T.1 245 o = (m.ba o : Int) := (a4.1.2.1.2.2.1 o o1).2.2.1
  rw [if_neg (fun z => c0 ((rV_n g2).mp z)), hob, bd_some] at hst
  by_cases cn : (m.top 0).2 < 0
  · rw [if_pos (Or.inl cn)] at ef
    rw [if_pos cn, bd_rz, bd_rz, bd_rz] at hst
    exact rp_rz hwf hk hm h ht.1 b4 ef a3 (rMm_n a4) hst
  rw [if_neg cn, if_pos (in_i (N := 2000) (by omega)), jc_rm.2.2.2.2.2.2.2.1, Int.toNat_natCast, h46] at hst
  by_cases ci : (m.ext o : Int) ≤ (m.top 0).2
  · rw [if_pos (Or.inr ci)] at ef
    rw [if_neg (by omega), bd_rz, bd_rz, bd_rz] at hst
    exact rp_rz hwf hk hm h ht.1 b4 ef a3 (rMm_n a4) hst
  rw [if_neg (by omega)] at ef
  have hbn := ba_mono hm.2.1 m.n (Nat.le_refl _) (o + 1) (by omega)
  have hbo := hm.2.1.2.2.2.1 o o1
  have h12 := hm.2.1.2.2.1
  obtain ⟨qq, hqq⟩ : ∃ qq : Nat, (m.top 0).2 = (qq : Int) := ⟨(m.top 0).2.toNat, by omega⟩
  have hqe : qq < m.ext o := by omega
  have hcell : m.ba o + qq < m.ba m.n := by unfold jM.ext at hqe; omega
  have h47 : T.1 247 (m.ba o + qq) = rV (m.me (m.ba o + qq)) := a4.1.2.1.2.2.2 _ hcell
  have e6 : ∀ _ : Unit, nk_w ((m.ba o : Int) + nk_w (qq : Int)) = ((m.ba o + qq : Nat) : Int) := fun _ => by
    rw [nk_w_id (z := (qq : Int)) (by omega) (by omega), nk_w_id (by omega) (by omega)]; omega
  rw [hqq, Int.toNat_natCast] at ef
  rw [hqq, if_pos (by omega), jc_rm.2.2.2.2.2.2.1, h45, e6 (), lt_eq, if_pos e33, if_pos (in_i (N := 12000) (by omega)), jc_rm.2.2.2.2.2.2.2.2.1, Int.toNat_natCast, h47] at hst
  obtain ⟨S2, S3, d1, d2, d3, d4⟩ := r_lev a4 (by omega) (by omega) (m.me (m.ba o + qq))
  refine rp_go ef ⟨S3, ?_, rxF_trans a3 d3, d4⟩
  rw [hst, d1, bd_some, d2, bd_some, bd_some, bd_some]
end REL
