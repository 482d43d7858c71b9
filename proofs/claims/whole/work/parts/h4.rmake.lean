/-! The run: the reference makes objects and arrays. -/
section RMK
variable {p : jP} {m m' m1 : jM} {P Q : Nat} {tx : List (List Int)} {x : jC} {t : Nat → Int} {inp : Nat → Int} {S S' S1 : nk_S} {A : jA} {σ : jG} {i : Nat} {v : jV}
theorem r_min {n : Nat} (T : nk_S) : ja_J9_min_7cf53 (n : Int) 12001 T = some (((min n 12001 : Nat) : Int), T) := by
  unfold ja_J9_min_7cf53
  by_cases c : (12001 : Int) < (n : Int)
  · rw [if_pos c, show min n 12001 = 12001 by omega]; rfl
  · rw [if_neg c, show min n 12001 = n by omega]
/-- a new object of a size -/
theorem r_mk38 (hwf : pWf tx p) (hk : pKX p Q) (h : rXx S P p A σ) (hm : mOk p m) {k : Nat} (hM : rMm p S (m.drp k)) {op : Nat} (ho : op = 30 ∨ op = 31) {s sz : Nat} (hsv : sVd p.2.2.2.2.1 s = true) (h30 : op = 30 → ∃ c : Nat, c < p.2.1.length ∧ sTp p.2.2.2.2.1 s = 4 + 2 * (c : Int) ∧ cl (sTp p.2.2.2.2.1 s) = c ∧ tAr (sTp p.2.2.2.2.1 s) = false ∧ sz = nOf p.2.1 p.2.2.1 c) (h31 : op = 31 → tAr (sTp p.2.2.2.2.1 s) = true) (hk8 : m.hs m.d - k < 8) (hpc : m.pc m.d < 100000) {i : Int} : (mMk p m s sz = none → ja_X13_make_b38 121 (op : Int) (s : Int) i (rvU (sTp p.2.2.2.2.1 s)) (sz : Int) S = some (0, nk_wi (nk_wi S 121 61 3) 121 59 i)) ∧ ∀ m1, mMk p m s sz = some m1 → ∃ S', ja_X13_make_b38 121 (op : Int) (s : Int) i (rvU (sTp p.2.2.2.2.1 s)) (sz : Int) S = some (0, S') ∧ rxF S S' ∧ rMm p S' (m1.lev k (2, ((m.n + 1 : Nat) : Int))) := by
  obtain ⟨c1, c2, c3, c4, c5, c6, c7, c8⟩ := p_ctx hwf hk
  obtain ⟨g1, g2⟩ := r_obj (S := S) (s := s) (sz := sz) (i := i) hm.2.1 hM.1.2.1 rfl
  obtain ⟨bm, hbm⟩ := big_ge 20000 (by decide)
  have hpre : ja_X13_make_b38 121 (op : Int) (s : Int) i (rvU (sTp p.2.2.2.2.1 s)) (sz : Int) S = nk_bd (ja_X13_object 121 (rvU (sTp p.2.2.2.2.1 s)) (s : Int) ((min sz 12001 : Nat) : Int) i S) fun r4 S5 => if r4 = 0 then some (0, S5) else nk_bd (ja_X13_objectOf r4 S5) fun r8 S9 => if 0 ≤ r8 ∧ r8 < 2000 then nk_lt (S9.1 (ja_c 121 47) r8.toNat) fun v12 => ja_X13_make_L93 nk_big 121 (op : Int) (rvU (sTp p.2.2.2.2.1 s)) (sz : Int) r4 v12 0 S9 else none := by
    unfold ja_X13_make_b38
    rw [if_pos (by omega), r_min, bd_some]
  refine ⟨fun hn => by rw [hpre, g1 hn, bd_some, if_pos rfl], fun m1 hs => ?_⟩
  obtain ⟨T1, a1, a2, a3, a4, a5, a6⟩ := g2 m1 hs
  obtain ⟨em, hlim⟩ := mMk_e hs
  have hn : m.n < 2000 := by omega
  have r0 : rV (2, ((m.n + 1 : Nat) : Int)) ≠ 0 := by rw [rV_r rfl]; show (1099511627776 : Int) + ((m.n + 1 : Nat) : Int) ≠ 0; omega
  have h45 : T1.1 245 m.n = (m.ba m.n : Int) := by
    have := (a5.2.2 m.n (by rw [em]; exact Nat.lt_succ_self _)).2.2.1
    rw [this, em]
    show ((gU m.ba (m.n + 1) (m.ba m.n + sz) m.n : Nat) : Int) = _
    rw [gU_ne (by omega)]
  obtain ⟨z, hz⟩ : ∃ z : Int, z = if (op : Int) = 31 then (if rvU (sTp p.2.2.2.2.1 s) = 40 then 0 else 1099511627776) else 1099511627776 := ⟨_, rfl⟩
  obtain ⟨T2, b1, b2, b3, b4⟩ := r_mkL (op := (op : Int)) (ty := rvU (sTp p.2.2.2.2.1 s)) (r := rV (2, ((m.n + 1 : Nat) : Int))) (ba := m.ba m.n) (sz := sz) (by omega) hz sz 0 nk_big T1 (Nat.add_zero _) (by omega)
  have hsv2 := (c4 s hsv).1
  have hcell : ∃ T3, ja_X13_make_L93 nk_big 121 (op : Int) (rvU (sTp p.2.2.2.2.1 s)) (sz : Int) (rV (2, ((m.n + 1 : Nat) : Int))) (m.ba m.n : Int) 0 T1 = ja_X13_make_b220 121 (rV (2, ((m.n + 1 : Nat) : Int))) T3 ∧ T3.2 = T1.2 ∧ (∀ a, a ≠ 247 → T3.1 a = T1.1 a) ∧ (∀ j, j < m.ba m.n → T3.1 247 j = T1.1 247 j) ∧ ∀ q, q < sz → T3.1 247 (m.ba m.n + q) = rV (mIn p s q) := by
    rcases ho with q0 | q0
    · obtain ⟨c, d1, d2, d3, d4, d5⟩ := h30 q0
      have e8 : rvU (sTp p.2.2.2.2.1 s) = 8 + (c : Int) := by
        rw [d2]; unfold rvU
        rw [if_neg (by omega), if_neg (by omega), if_neg (by omega), if_neg (by omega), if_pos (by omega)]; omega
      have hX2 : rXx T2 P p A σ := by
        refine rXx_f (S := T1) ⟨b2, fun a ha => b3 a (by omega), fun f hf => by rw [b3 121 (by decide)]⟩ (rXx_f a2 h)
      have hlen := c5.1
      obtain ⟨T3, f1, f2, f3, f4, f5⟩ := r_flL (r := rV (2, ((m.n + 1 : Nat) : Int))) (ba := m.ba m.n) hwf hk d1 (by rw [← d5]; omega) p.2.2.1.length 0 nk_big T2 (Nat.add_zero _) (by omega) hX2
      rw [if_pos (show (op : Int) = 30 by omega), e8] at b1
      rw [if_neg (show ¬ (op : Int) = 31 by omega)] at hz
      refine ⟨T3, ?_, f2.trans b2, fun a ha => (f3 a ha).trans (b3 a ha), fun j hj => ?_, fun q hq => ?_⟩
      · rw [e8]
        exact b1.trans f1
      · rcases f4 j with e | ⟨-, f', y, -, -, -, e⟩
        · rw [e, b4, if_neg (by omega)]
        · omega
      · have e0 : mIn p s q = if fNm p c q = true then (1, 0) else (2, 0) := by
          unfold mIn
          rw [d4, if_neg (by decide), d3]
        rw [e0]
        by_cases cf : fNm p c q = true
        · rw [if_pos cf]
          unfold fNm at cf
          obtain ⟨f', l1, l2⟩ := (exB_iff 48).mp cf
          cases hy : p.2.2.1[f']? with
          | none => rw [hy] at l2; cases l2
          | some y =>
            rw [hy] at l2
            simp only [Bool.and_eq_true, decide_eq_true_eq] at l2
            have := f5 f' y (Nat.zero_le _) hy l2.1.1 l2.1.2
            rw [l2.2] at this
            rw [this]; rfl
        · rw [if_neg cf]
          rcases f4 (m.ba m.n + q) with e | ⟨-, f', y, e1, e2, e3, e4⟩
          · rw [e, b4, if_pos (by omega), hz]; rfl
          · exfalso
            refine cf ?_
            unfold fNm
            refine (exB_iff 48).mpr ⟨f', by have := at_lt e1; omega, ?_⟩
            rw [e1]
            simp only [Bool.and_eq_true, decide_eq_true_eq]
            exact ⟨⟨e2, e3⟩, by omega⟩
    · rw [if_neg (show ¬ (op : Int) = 30 by omega)] at b1
      rw [if_pos (show (op : Int) = 31 by omega)] at hz
      refine ⟨T2, b1, b2, b3, fun j hj => by rw [b4, if_neg (by omega)], fun q hq => ?_⟩
      rw [b4, if_pos (by omega), hz]
      unfold mIn
      rw [if_pos (h31 q0)]
      have e40 := (rvU_s c2 hsv2).2.2.2.1
      by_cases c : sTp p.2.2.2.2.1 s = 3
      · rw [if_pos c, if_pos (e40.mpr c)]; rfl
      · rw [if_neg c, if_neg (fun w => c (e40.mp w))]; rfl
  obtain ⟨T3, f1, f2, f3, f4, f5⟩ := hcell
  have tF : rxF S T3 := rxF_trans a2 ⟨f2, fun a ha => f3 a (by omega), fun f hf => by rw [f3 121 (by decide)]⟩
  have hM3 : rMm p T3 (m1.drp k) := by
    rw [em]
    have k3 : ∀ a, (239 ≤ a ∧ a ≤ 242) ∨ a = 249 → T3.1 a = S.1 a := fun a ha => by rw [f3 a (by omega), a3 a (by omega)]
    refine ⟨⟨?_, ⟨?_, ?_, ?_, ?_⟩, ?_⟩, ?_⟩
    · exact rFn_c (S := S) (m := m.drp k) (by rw [f3 121 (by decide), a4 52 (by omega)]) (fun a ha => k3 a (by omega)) hM.1.1
    · rw [f3 121 (by decide), a5.1, em]; rfl
    · rw [f3 121 (by decide), a5.2.1, em]; rfl
    · intro o ho
      rw [f3 243 (by decide), f3 244 (by decide), f3 245 (by decide), f3 246 (by decide)]
      have := a5.2.2 o (by rw [em]; exact ho)
      rw [em] at this
      exact this
    · intro j hj
      have hj : j < gU m.ba (m.n + 1) (m.ba m.n + sz) (m.n + 1) := hj
      rw [gU_at] at hj
      show T3.1 247 j = rV (if m.ba m.n ≤ j ∧ j < m.ba m.n + sz then mIn p s (j - m.ba m.n) else m.me j)
      by_cases c : m.ba m.n ≤ j
      · rw [if_pos ⟨c, hj⟩]
        have := f5 (j - m.ba m.n) (by omega)
        rw [show m.ba m.n + (j - m.ba m.n) = j by omega] at this
        exact this
      · rw [if_neg (by omega), f4 j (by omega), a3 247 (by omega)]
        exact hM.1.2.1.2.2.2 j (by show j < m.ba m.n; omega)
    · exact rIo_c (S := S) (fun g hg => by
        rw [f3 121 (by decide)]
        by_cases e : g = 55
        · exact a2.2.2 g (by omega)
        · exact a4 g (by omega)) (k3 249 (by omega)) hM.1.2.2
    · exact rFq_c (S := S) (m := m.drp k) (fun a ha => k3 a (by omega)) hM.2
  have hmm : m1.d = m.d ∧ m1.hs = m.hs ∧ m1.pc = m.pc := by rw [em]; exact ⟨rfl, rfl, rfl⟩
  obtain ⟨S2, S3, d1, d2, d3, d4⟩ := r_lev hM3 (by rw [hmm.1, hmm.2.1]; exact hk8) (by rw [hmm.1, hmm.2.2]; exact hpc) (2, ((m.n + 1 : Nat) : Int))
  refine ⟨S3, ?_, rxF_trans tF d3, d4⟩
  rw [hpre, a1, bd_some, if_neg r0, r_ob (by omega), bd_some, if_pos (in_i (N := 2000) (by omega)), jc_rm.2.2.2.2.2.2.1, Int.toNat_natCast, h45, lt_eq, f1]
  unfold ja_X13_make_b220
  rw [d1, bd_some, d2, bd_some]
/-- the reference makes an object or an array -/
theorem r_make (hwf : pWf tx p) (hk : pKX p Q) (h : rXx S P p A σ) (hm : mOk p m) (ht : mTop p m x t) (hM : rMm p S m) (ho : x.1 = 30 ∨ x.1 = 31) : rsO p A σ inp m (m.pc m.d) x S := by
  obtain ⟨b1, b3, b4, b5, b8⟩ := r_at hk hm ht
  obtain ⟨c1, c2, c3, c4, c5, c6, c7, c8⟩ := p_ctx hwf hk
  have hst := r_ost hwf hk h ht.1 b4 (by omega)
  have erA : rA x = x.2.2.1 := by unfold rA; rw [if_pos ho]
  obtain ⟨u1, u2⟩ := hs_at hk ht (by omega)
  obtain ⟨s, s1, s2, s3, s4, s5, s6⟩ := site_at hwf hk ht ho
  rw [erA, s1] at hst
  have hsv : sVd p.2.2.2.2.1 s = true := by unfold sVd; rw [decide_eq_true s2]; rfl
  have hx := rx_at hwf hk h
  have h20 : S.1 (P + 20) s = rvU (sTp p.2.2.2.2.1 s) := hx.2.2.1 s hsv (by omega)
  have jP := jc_Pm h.1
  have tt := ofTk x.1 b5
  have hos : ja_X13_objectStep 121 (x.1 : Int) (s : Int) (m.pc m.d : Int) S = nk_bd (ja_X13_make 121 (x.1 : Int) (s : Int) (m.pc m.d : Int) S) fun r1 S2 => some (0, S2) := by
    unfold ja_X13_objectStep ja_X13_objectStep_b64
    rcases ho with q | q
    · rw [if_pos (by omega)]
    · rw [if_neg (by omega), if_pos (by omega)]
  rw [hos] at hst
  unfold ja_X13_make at hst
  rw [if_pos (in_i (N := 54) (by omega)), h.2.1, jP.2.2.2.2.1, Int.toNat_natCast, h20, lt_eq] at hst
  rcases ho with q | q
  · have hk1 := tt.2.2.2.2.2.2.2.1 q
    rw [hk1.1, hk1.2.1] at u2
    obtain ⟨c, d1, d2, d3, d4, d5⟩ := s5 q
    have e8 : rvU (sTp p.2.2.2.2.1 s) = 8 + (c : Int) := by
      rw [d3]; unfold rvU
      rw [if_neg (by omega), if_neg (by omega), if_neg (by omega), if_neg (by omega), if_pos (by omega)]; omega
    have e9 : ∀ _ : Unit, nk_w (rvU (sTp p.2.2.2.2.1 s) - 8) = (c : Int) := fun _ => by rw [e8, nk_w_id (by omega) (by omega)]; omega
    have h2 : S.1 (P + 2) c = (nOf p.2.1 p.2.2.1 c : Int) := hx.2.2.2.2.2.2.1.1 c (by have := hwf.1.2.1; omega)
    rw [if_neg (by omega), e9 (), if_pos (in_i (N := 32) (by omega)), jP.1, Int.toNat_natCast, h2] at hst
    have ef := ef_30 (p := p) (inp := inp) (m := m) (i := m.pc m.d) (x := x) q
    rw [s1, d1, Int.toNat_natCast, Int.toNat_natCast] at ef
    obtain ⟨g1, g2⟩ := r_mk38 (k := 0) (i := (m.pc m.d : Int)) hwf hk h hm (by rw [drp_0]; exact hM) (Or.inl q) hsv (fun _ => ⟨c, d2, d3, d4, d5, rfl⟩) (fun w => by omega) (by omega) (by omega)
    cases hmk : mMk p m s (nOf p.2.1 p.2.2.1 c) with
    | none =>
      rw [hmk] at ef
      rw [g1 hmk, bd_some, bd_some] at hst
      exact rp_st ef rxF_rfl hM.1.2.2 hst
    | some m1 =>
      rw [hmk] at ef
      obtain ⟨S3, k1, k2, k3⟩ := g2 m1 hmk
      rw [k1, bd_some, bd_some] at hst
      exact rp_go ef ⟨S3, hst, k2, k3⟩
  · have hk1 := tt.2.2.2.2.2.1 (by omega)
    rw [hk1.1, hk1.2.1] at u2
    obtain ⟨g1', g2'⟩ := (kd_top hk ht).2.1 (by omega)
    have w0 := (top_k ht (k := 0) (by omega)).2
    obtain ⟨S1, a1, a2, a3⟩ := r_pop hM (by omega)
    have ef := ef_31 (p := p) (inp := inp) (m := m) (i := m.pc m.d) (x := x) q
    rw [if_pos (by omega), a1, bd_some, rV_w w0 g1'] at hst
    by_cases cn : (m.top 0).2 < 0
    · rw [if_pos cn] at ef
      unfold ja_X13_make_b38 at hst
      rw [if_neg (by omega), bd_rz, bd_rz, bd_rz] at hst
      exact rp_rz hwf hk hm h ht.1 b4 ef a2 (rMm_n a3) hst
    · rw [if_neg cn, s1, Int.toNat_natCast] at ef
      obtain ⟨sz, hsz⟩ : ∃ sz : Nat, (m.top 0).2 = (sz : Int) := ⟨(m.top 0).2.toNat, by omega⟩
      rw [hsz, Int.toNat_natCast] at ef
      rw [hsz] at hst
      obtain ⟨g1, g2⟩ := r_mk38 (k := 1) (sz := sz) (i := (m.pc m.d : Int)) hwf hk (rXx_f a2 h) hm a3 (Or.inr q) hsv (fun w => by omega) (fun _ => s6 q) (by omega) (by omega)
      cases hmk : mMk p m s sz with
      | none =>
        rw [hmk] at ef
        rw [g1 hmk, bd_some, bd_some] at hst
        exact rp_st ef a2 a3.1.2.2 hst
      | some m1 =>
        rw [hmk] at ef
        obtain ⟨S3, k1, k2, k3⟩ := g2 m1 hmk
        rw [k1, bd_some, bd_some] at hst
        exact rp_go ef ⟨S3, hst, rxF_trans a2 k2, k3⟩
end RMK
