/-! The run: the class makes objects, raises errors; length, types, throw, input and output. -/
section CMK
variable {p : jP} {m m' m1 : jM} {Q : Nat} {tx : List (List Int)} {x : jC} {t : Nat → Int} {inp : Nat → Int} {S S' : nk_S} {A : jA} {σ : jG} {i : Nat}
theorem mIn_0 (s q : Nat) : (mIn p s q).2 = 0 := by
  unfold mIn
  split
  · split <;> rfl
  · split <;> rfl
/-- the cells of a new object are emptied -/
theorem x_mkL {i s : Int} {b sz : Nat} (hb : b + sz ≤ 12000) : ∀ (d k f : Nat) (T : nk_S), k + d = sz → d < f → T.2 = S.2 → (∀ a, a ≠ 119 → T.1 a = S.1 a) → (∀ j, T.1 119 j = if b ≤ j ∧ j < b + k then 0 else S.1 119 j) → ∃ T' f', ja_X2_make_L46 f 113 s (sz : Int) (b : Int) (k : Int) T = ja_X2_make_b46 (ja_X2_make_L46 f') 113 s (sz : Int) (b : Int) (sz : Int) T' ∧ T'.2 = S.2 ∧ (∀ a, a ≠ 119 → T'.1 a = S.1 a) ∧ ∀ j, T'.1 119 j = if b ≤ j ∧ j < b + sz then 0 else S.1 119 j := by
  intro d
  induction d with
  | zero =>
    intro k f T h1 h2 g1 g2 g3
    obtain ⟨f, rfl⟩ : ∃ q, f = q + 1 := ⟨f - 1, by omega⟩
    obtain rfl : k = sz := by omega
    exact ⟨T, f, rfl, g1, g2, g3⟩
  | succ d ih =>
    intro k f T h1 h2 g1 g2 g3
    obtain ⟨f, rfl⟩ : ∃ q, f = q + 1 := ⟨f - 1, by omega⟩
    have es : ∀ _ : Unit, nk_w ((k : Int) + 1) = ((k + 1 : Nat) : Int) := fun _ => w_nat1 (by omega)
    have eb : ∀ _ : Unit, nk_w ((b : Int) + (k : Int)) = ((b + k : Nat) : Int) := fun _ => by rw [nk_w_id (by omega) (by omega)]; omega
    obtain ⟨T1, hT1⟩ : ∃ T1, T1 = nk_wi T 119 (b + k) 0 := ⟨_, rfl⟩
    obtain ⟨T', f', w1, w2⟩ := ih (k + 1) f T1 (by omega) (by omega) (by rw [hT1]; exact g1) (fun a ha => by rw [hT1, wi_n ha]; exact g2 a ha) (fun j => by
      rw [hT1, wi_at]
      by_cases e : j = b + k
      · rw [if_pos e, if_pos (by omega)]
      · rw [if_neg e, g3]
        by_cases c : b ≤ j ∧ j < b + k
        · rw [if_pos c, if_pos (by omega)]
        · rw [if_neg c, if_neg (by omega)])
    refine ⟨T', f', ?_, w2⟩
    rw [← w1]
    show ja_X2_make_b46 (ja_X2_make_L46 f) 113 s (sz : Int) (b : Int) (k : Int) T = _
    conv => lhs; unfold ja_X2_make_b46
    rw [if_neg (by omega), eb (), if_pos (in_i (N := 12000) (by omega)), jc_113_9, Int.toNat_natCast, lt_eq, ← hT1, es (), lt_eq]
theorem x_make (hT : hTy p m) (hc : cMm S m) {s sz : Nat} (hz : sz < 2000000000) : (mMk p m s sz = none → ja_X2_make 113 (i : Int) (s : Int) (sz : Int) S = some (0, nk_wi (nk_wi S 113 12 3) 113 15 (i : Int))) ∧ ∀ m1, mMk p m s sz = some m1 → ∃ S', ja_X2_make 113 (i : Int) (s : Int) (sz : Int) S = some (((m.n + 1 : Nat) : Int), S') ∧ mkF S S' ∧ cMm S' m1 := by
  obtain ⟨t1, t2, t3, -⟩ := hT
  obtain ⟨hF, ⟨h8, h17, h18, h19⟩, hI⟩ := hc
  have h8 : S.1 113 8 = (m.n : Int) := h8
  have h18n : S.1 118 m.n = (m.ba m.n : Int) := h18 m.n (Nat.le_refl _)
  have b35 : ja_X2_make_b35 113 (i : Int) S = some (0, nk_wi (nk_wi S 113 12 3) 113 15 (i : Int)) := by
    unfold ja_X2_make_b35 ja_X2_finish
    rw [lt_eq, lt_eq, bd_some]
  have ew : ∀ _ : Unit, nk_w (12000 - (m.ba m.n : Int)) = ((12000 - m.ba m.n : Nat) : Int) := fun _ => by rw [nk_w_id (by omega) (by omega)]; omega
  unfold mMk ja_X2_make
  rw [h8, if_pos (in_i (N := 2001) (by omega)), jc_113_7, Int.toNat_natCast, h18n, lt_eq]
  refine ⟨fun hn => ?_, fun m1 hs => ?_⟩
  · split at hn
    · rename_i c
      by_cases c1 : 2000 ≤ m.n
      · rw [if_pos (by omega), b35]
      · rw [if_neg (by omega), if_neg (by omega), ew (), if_neg (by omega), b35]
    · cases hn
  · split at hs
    · cases hs
    · rename_i c
      cases hs
      obtain ⟨bm, hbm⟩ := big_ge 20000 (by decide)
      obtain ⟨T, f', g1, g2, g3, g4⟩ := x_mkL (S := S) (i := (i : Int)) (s := (s : Int)) (b := m.ba m.n) (sz := sz) (by omega) sz 0 nk_big S (by omega) (by omega) rfl (fun _ _ => rfl) (fun j => by rw [if_neg (by omega)])
      have g1 : ja_X2_make_L46 nk_big 113 (s : Int) (sz : Int) (m.ba m.n : Int) 0 S = _ := g1
      rw [if_neg (by omega), if_neg (by omega), ew (), if_pos (by omega), g1]
      unfold ja_X2_make_b46
      have hT8 : T.1 113 8 = (m.n : Int) := by rw [g3 113 (by decide)]; exact h8
      obtain ⟨U, hU⟩ : ∃ U, U = nk_wi (nk_wi (nk_wi T 117 m.n (s : Int)) 113 8 ((m.n + 1 : Nat) : Int)) 118 (m.n + 1) ((m.ba m.n + sz : Nat) : Int) := ⟨_, rfl⟩
      have u8 : (nk_wi (nk_wi T 117 m.n (s : Int)) 113 8 ((m.n + 1 : Nat) : Int)).1 113 8 = ((m.n + 1 : Nat) : Int) := by rw [wi_at, if_pos rfl]
      have es : ∀ _ : Unit, nk_w ((m.ba m.n : Int) + (sz : Int)) = ((m.ba m.n + sz : Nat) : Int) := fun _ => by rw [nk_w_id (by omega) (by omega)]; omega
      have un : ∀ a, a ≠ 117 → a ≠ 118 → a ≠ 113 → a ≠ 119 → U.1 a = S.1 a := fun a q1 q2 q3 q4 => by rw [hU, wi_n q2, wi_n q3, wi_n q1, g3 a q4]
      have u113 : ∀ f, U.1 113 f = if f = 8 then ((m.n + 1 : Nat) : Int) else S.1 113 f := fun f => by rw [hU, wi_n (by decide), wi_at, wi_n (by decide), g3 113 (by decide)]
      have u117 : ∀ o, U.1 117 o = if o = m.n then (s : Int) else S.1 117 o := fun o => by rw [hU, wi_n (by decide), wi_n (by decide), wi_at, g3 117 (by decide)]
      have u118 : ∀ o, U.1 118 o = if o = m.n + 1 then ((m.ba m.n + sz : Nat) : Int) else S.1 118 o := fun o => by rw [hU, wi_at, wi_n (by decide), wi_n (by decide), g3 118 (by decide)]
      have u119 : ∀ j, U.1 119 j = if m.ba m.n ≤ j ∧ j < m.ba m.n + sz then 0 else S.1 119 j := fun j => by rw [hU, wi_n (by decide), wi_n (by decide), wi_n (by decide), g4]
      refine ⟨U, ?_, ⟨by rw [hU]; exact g2, fun a ha => un a (by omega) (by omega) (by omega) (by omega), fun f hf => by rw [u113, if_neg (by omega)]⟩, ?_, ⟨?_, fun o ho => ?_, fun o ho => ?_, fun j hj => ?_⟩, ?_⟩
      · rw [if_pos (Int.le_refl _), hT8, if_pos (in_i (N := 2000) (by omega)), jc_113_6, jc_113_7, Int.toNat_natCast, lt_eq, wi_n (b := 113) (by decide), hT8, w_nat1 (by omega), lt_eq, u8, if_pos (in_i (N := 2001) (by omega)), Int.toNat_natCast, es (), lt_eq, ← hU, u113, if_pos rfl]
      · obtain ⟨⟨q1, q2⟩, q3, q4⟩ := hF
        exact ⟨⟨by rw [u113, if_neg (by decide)]; exact q1, q2⟩, fun f hf => by rw [un 115 (by decide) (by decide) (by decide) (by decide), un 116 (by decide) (by decide) (by decide) (by decide)]; exact q3 f hf, fun f k hf hk => by rw [un 114 (by decide) (by decide) (by decide) (by decide)]; exact q4 f k hf hk⟩
      · rw [u113, if_pos rfl]
      · have ho : o < m.n + 1 := ho
        show _ = ((gU m.si m.n s o : Nat) : Int)
        rw [u117]
        unfold gU
        by_cases e : o = m.n
        · rw [if_pos e, if_pos e]
        · rw [if_neg e, if_neg e]; exact h17 o (show o < m.n by omega)
      · have ho : o ≤ m.n + 1 := ho
        show _ = ((gU m.ba (m.n + 1) (m.ba m.n + sz) o : Nat) : Int)
        rw [u118]
        unfold gU
        by_cases e : o = m.n + 1
        · rw [if_pos e, if_pos e]
        · rw [if_neg e, if_neg e]; exact h18 o (show o ≤ m.n by omega)
      · have hj : j < gU m.ba (m.n + 1) (m.ba m.n + sz) (m.n + 1) := hj
        rw [gU_at] at hj
        show _ = (if m.ba m.n ≤ j ∧ j < m.ba m.n + sz then mIn p s (j - m.ba m.n) else m.me j).2
        rw [u119]
        by_cases e : m.ba m.n ≤ j ∧ j < m.ba m.n + sz
        · rw [if_pos e, if_pos e, mIn_0]
        · rw [if_neg e, if_neg e]; exact h19 j (show j < m.ba m.n by omega)
      · exact cIo_c (S := S) (by rw [u113, if_neg (by decide)]) (by rw [u113, if_neg (by decide)]) (un 120 (by decide) (by decide) (by decide) (by decide)) hI
theorem x_new (hwf : pWf tx p) (hk : pKX p Q) (h : cXx S Q p A σ) (hm : mOk p m) (ht : mTop p m x t) (hc : cMm S m) (ho : x.1 = 30 ∨ x.1 = 31) : pfO p inp m (m.pc m.d) x S := by
  obtain ⟨b1, b2, b3, b4, b5⟩ := x_at hk hm ht hc
  obtain ⟨⟨xb, e, hp⟩, hkd, hV⟩ := m_at hk ht
  obtain ⟨⟨p1, -⟩, ⟨c1, c2, c3⟩, -⟩ := id hp
  obtain ⟨t1, t2⟩ := tkX_n (bl := p.2.2.2.1) (x := x) (by omega)
  rw [t1, t2] at c2
  rw [t1] at c1
  have ht3 := ht.2.2.1
  rw [← ht3] at c1 c2
  have tt := ofTk x.1 p1.1
  have hpf := x_perf h ht.1 b4
  rw [if_pos (by omega), if_pos (by omega), if_pos (by omega)] at hpf
  obtain ⟨o1, o2, o3, o4⟩ := cx_op h ht.1
  obtain ⟨s, s1, s2, s3, s4, s5, s6⟩ := site_at hwf hk ht ho
  have hmo : ∀ (sz k : Nat), sz < 2000000000 → k ≤ m.hs m.d → m.hs m.d - k < 8 → (mMk p m s sz = none → ja_X2_makeObject 113 (m.pc m.d : Int) (sz : Int) (k : Int) S = some (0, nk_wi (nk_wi S 113 12 3) 113 15 (m.pc m.d : Int))) ∧ ∀ m1, mMk p m s sz = some m1 → ∃ S', ja_X2_makeObject 113 (m.pc m.d : Int) (sz : Int) (k : Int) S = some (0, S') ∧ mkF S S' ∧ cMm S' (m1.lev k (2, ((m.n + 1 : Nat) : Int))) := by
    intro sz k hz hk1 hk2
    obtain ⟨g1, g2⟩ := x_make (i := m.pc m.d) (s := s) hm.2.1 hc hz
    have hun : ∀ R, ja_X2_make 113 (m.pc m.d : Int) (s : Int) (sz : Int) S = R → ja_X2_makeObject 113 (m.pc m.d : Int) (sz : Int) (k : Int) S = nk_bd R fun r4 S5 => if r4 = 0 then some (0, S5) else nk_bd (ja_X2_refCell r4 S5) fun r7 S8 => nk_bd (ja_X2_leave 113 (k : Int) r7 S8) fun r10 S11 => some (r10, S11) := by
      intro R hR
      unfold ja_X2_makeObject
      rw [if_pos (in_i (N := 1024) (by omega)), h.2.1, (jc_Qp h.1).2.2.2.1, Int.toNat_natCast, o3, s1, hR]
    refine ⟨fun hn => ?_, fun m1 hs => ?_⟩
    · rw [hun _ (g1 hn), bd_some, if_pos rfl]
    · obtain ⟨S1, a1, a2, a3⟩ := g2 m1 hs
      have hmm : m1.d = m.d ∧ m1.hs = m.hs ∧ m1.pc = m.pc := by
        unfold mMk at hs
        split at hs
        · cases hs
        · cases hs; exact ⟨rfl, rfl, rfl⟩
      have hlt : m.n < 2000 := by
        unfold mMk at hs
        split at hs
        · cases hs
        · rename_i c; omega
      obtain ⟨S2, d1, d2, d3⟩ := x_leave a3 (by rw [hmm.1, hmm.2.2]; exact b4) (k := k) (by rw [hmm.1, hmm.2.1]; exact hk1) (by rw [hmm.1, hmm.2.1]; exact hk2) (2, ((m.n + 1 : Nat) : Int))
      refine ⟨S2, ?_, mkF_trans a2 (mbF_m d2), d3⟩
      rw [hun _ a1, bd_some, if_neg (by omega), x_ref (by omega) (by omega), bd_some, d1, bd_some]
  rcases ho with q | q
  · have hk1 := tt.2.2.2.2.2.2.2.1 q
    rw [hk1.1, hk1.2.1] at c2
    obtain ⟨c, d1, d2, d3, d4, d5⟩ := s5 q
    clear s5 s6
    have hno : nOf p.2.1 p.2.2.1 c ≤ 64 * 48 := nOf_le (hwf.1.2.2.2.2.2.1.1) 64 c
    obtain ⟨g1, g2⟩ := hmo (nOf p.2.1 p.2.2.1 c) 0 (by omega) (by omega) (by omega)
    have g1 : mMk p m s (nOf p.2.1 p.2.2.1 c) = none → ja_X2_makeObject 113 (m.pc m.d : Int) (nOf p.2.1 p.2.2.1 c : Int) 0 S = _ := g1
    have ef := ef_30 (p := p) (inp := inp) (m := m) (i := m.pc m.d) (x := x) q
    rw [s1, d1, Int.toNat_natCast, Int.toNat_natCast] at ef
    have hpf2 : ja_X2_perform 113 (m.pc m.d : Int) S = ja_X2_makeObject 113 (m.pc m.d : Int) (nOf p.2.1 p.2.2.1 c : Int) 0 S := by
      have h32 := hk.2.1.2.2.2.2.1
      rw [hpf]
      unfold ja_X2_perform_b49
      rw [if_pos (by omega), if_pos (in_i (N := 1024) (by omega)), h.2.1, (jc_Qp h.1).2.2.1, (jc_Q h.1).1, Int.toNat_natCast, o2, d1, if_pos (in_i (N := 32) (by omega)), (show ja_c (Q + 1) 3 = Q + 4 by rcases h.1 with rfl | rfl <;> rfl), Int.toNat_natCast, h.2.2.2.2.2.2.2.1 c d2, bd_eta]
    cases hmk : mMk p m s (nOf p.2.1 p.2.2.1 c) with
    | none =>
      rw [hmk] at ef
      exact pf_st ef (by rw [hpf2, g1 hmk]; rfl)
    | some m1 =>
      rw [hmk] at ef
      obtain ⟨S1, a1, a2, a3⟩ := g2 m1 hmk
      exact pf_go ef ⟨S1, by rw [hpf2]; exact a1, a2, a3⟩
  · have hk1 := tt.2.2.2.2.2.1 (by omega)
    rw [hk1.1] at c1
    clear s5 s6
    obtain ⟨n0, w0⟩ := x_top hk hm ht hc (k := 0) (by omega)
    have n0 : ja_X2_numberAt 113 0 S = some ((m.top 0).2, S) := n0
    have hr2 := hkd.2.2.2.1 (by omega)
    rw [← ht3] at hr2
    have htk := top_k ht (k := 0) (by omega)
    rw [← ht3] at htk
    have hiR := wf_1 htk.2 (by rw [← htk.1]; exact hr2.1)
    have ef := ef_31 (p := p) (inp := inp) (m := m) (i := m.pc m.d) (x := x) q
    by_cases cn : (m.top 0).2 < 0
    · rw [if_pos cn] at ef
      refine pf_rz ef ?_
      rw [hpf]
      unfold ja_X2_perform_b49
      rw [if_neg (by omega), if_pos (by omega), n0, bd_some, if_neg (by omega), bd_eta]
      rfl
    · rw [if_neg cn, s1, Int.toNat_natCast] at ef
      obtain ⟨c, hcn⟩ : ∃ c : Nat, (m.top 0).2 = (c : Int) := ⟨(m.top 0).2.toNat, by omega⟩
      rw [hcn, Int.toNat_natCast] at ef
      have hc2 : c < 2147483648 := by unfold iR at hiR; omega
      have hpf2 : ja_X2_perform 113 (m.pc m.d : Int) S = ja_X2_makeObject 113 (m.pc m.d : Int) (c : Int) 1 S := by
        rw [hpf]
        unfold ja_X2_perform_b49
        rw [if_neg (by omega), if_pos (by omega), n0, bd_some, if_pos (by omega), n0, bd_some, bd_eta, hcn]
      by_cases csz : c < 2000000000
      · obtain ⟨g1, g2⟩ := hmo c 1 csz (by omega) (by omega)
        have g1 : mMk p m s c = none → ja_X2_makeObject 113 (m.pc m.d : Int) (c : Int) 1 S = _ := g1
        cases hmk : mMk p m s c with
        | none =>
          rw [hmk] at ef
          exact pf_st ef (by rw [hpf2, g1 hmk]; rfl)
        | some m1 =>
          rw [hmk] at ef
          obtain ⟨S1, a1, a2, a3⟩ := g2 m1 hmk
          exact pf_go ef ⟨S1, by rw [hpf2]; exact a1, a2, a3⟩
      · -- far too large
        have hmk : mMk p m s c = none := by unfold mMk; rw [if_pos (by omega)]
        rw [hmk] at ef
        refine pf_st ef ?_
        rw [hpf2]
        have h8 : S.1 113 8 = (m.n : Int) := hc.2.1.1
        have h18n : S.1 118 m.n = (m.ba m.n : Int) := hc.2.1.2.2.1 m.n (Nat.le_refl _)
        have hb := hm.2.1.2.2.1
        have ew : ∀ _ : Unit, nk_w (12000 - (m.ba m.n : Int)) = ((12000 - m.ba m.n : Nat) : Int) := fun _ => by rw [nk_w_id (by omega) (by omega)]; omega
        have b35 : ja_X2_make_b35 113 (m.pc m.d : Int) S = some (0, nk_wi (nk_wi S 113 12 3) 113 15 (m.pc m.d : Int)) := by
          unfold ja_X2_make_b35 ja_X2_finish
          rw [lt_eq, lt_eq, bd_some]
        have hmake : ja_X2_make 113 (m.pc m.d : Int) (s : Int) (c : Int) S = some (0, nk_wi (nk_wi S 113 12 3) 113 15 (m.pc m.d : Int)) := by
          unfold ja_X2_make
          rw [h8, if_pos (in_i (N := 2001) (by omega)), jc_113_7, Int.toNat_natCast, h18n, lt_eq]
          by_cases c1 : 2000 ≤ m.n
          · rw [if_pos (by omega), b35]
          · rw [if_neg (by omega), if_neg (by omega), ew (), if_neg (by omega), b35]
        unfold ja_X2_makeObject
        rw [if_pos (in_i (N := 1024) (by omega)), h.2.1, (jc_Qp h.1).2.2.2.1, Int.toNat_natCast, o3, s1, hmake, bd_some, if_pos rfl]
        rfl
end CMK
