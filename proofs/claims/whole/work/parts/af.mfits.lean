/-! Types: do they suit? the reference. -/
theorem allR_t {f : Nat → Bool} (h : ∀ k, f k = true) : ∀ (d k : Nat), allR f d k = true := by
  intro d
  induction d with
  | zero => intro k; rfl
  | succ d ih => intro k; rw [allR, h k, ih]; rfl
theorem tk_w2 : ∀ o : Nat, o < 46 → (8 ≤ o ∧ o ≤ 17) ∨ (20 ≤ o ∧ o ≤ 25) → tkT o = 2 ∧ wn o 0 = 1 ∧ wn o 1 = 1 := by decide +kernel
theorem wn_4 : ∀ o : Nat, o < 46 → (o < 8 ∨ o = 19 ∨ o = 30 ∨ o = 44) → ∀ k : Nat, wn o k = 4 := by
  intro o _ ho k
  unfold wn
  rw [if_neg (by omega), if_neg (by omega), if_neg (by omega), if_neg (by omega), if_neg (by omega), if_neg (by omega), if_neg (by omega), if_neg (by omega), if_neg (by omega)]
theorem tk_sp : tkT 32 = 1 ∧ tkT 33 = 2 ∧ tkT 34 = 3 ∧ tkT 35 = 1 ∧ tkT 36 = 2 ∧ tkT 41 = 1 ∧ tkT 42 = 1 := by decide +kernel
theorem tk_I : ∀ o : Nat, o < 46 → o = 18 ∨ o = 31 ∨ o = 45 → tkT o = 1 ∧ wn o 0 = 1 := by decide +kernel
theorem tk_R : ∀ o : Nat, o < 46 → o = 26 ∨ o = 27 ∨ o = 37 ∨ o = 38 → tkT o = 1 ∧ wn o 0 = 2 := by decide +kernel
theorem tk_RR : ∀ o : Nat, o < 46 → o = 28 ∨ o = 29 → tkT o = 2 ∧ wn o 0 = 2 ∧ wn o 1 = 2 := by decide +kernel
section MFI
variable {ns : List (List Int)} {us : List Int} {fl : List (List Int × Nat × Int)} {bl : List jB} {z : jL} {el : List (Nat × Nat × Nat × Nat)} {b : Nat} {xb : jB} {e : Nat × Nat × Nat × Nat} {M : Nat → Nat} {P : Nat}
theorem m_refT (h32 : us.length ≤ 32) {t : Int} (v : tV us t) (S : nk_S) : ja_X13_isReferenceType (rvU t) S = some (bi (decide (2 ≤ t)), S) := by
  unfold ja_X13_isReferenceType
  rcases rvU_k h32 v with k | k | k | k | k | k
  · rw [if_neg (by omega), if_pos (by omega), decide_eq_false (by omega)]; rfl
  · rw [if_neg (by omega), if_pos (by omega), decide_eq_false (by omega)]; rfl
  · rw [if_pos (by omega), decide_eq_true (by omega)]; rfl
  · rw [if_neg (by omega), if_neg (by omega), decide_eq_true (by omega)]; rfl
  · rw [if_neg (by omega), if_neg (by omega), decide_eq_true (by omega)]; rfl
  · rw [if_neg (by omega), if_neg (by omega), decide_eq_true (by omega)]; rfl
theorem m_arrT (h32 : us.length ≤ 32) {t : Int} (v : tV us t) (S : nk_S) : ja_X13_isArrayType (rvU t) S = some (bi (tAr t), S) := by
  have no : ¬ (t = 3 ∨ (4 < t ∧ t % 2 = 1)) → tAr t = false := by
    intro q
    unfold tAr
    rw [decide_eq_false (fun r => q (Or.inl r)), Bool.false_or]
    by_cases c : 4 < t
    · rw [decide_eq_false (show ¬ t % 2 = 1 from fun r => q (Or.inr ⟨c, r⟩)), Bool.and_false]
    · rw [decide_eq_false c, Bool.false_and]
  unfold ja_X13_isArrayType
  rcases rvU_k h32 v with k | k | k | k | k | k
  · rw [if_pos (by omega), no (by omega)]; rfl
  · rw [if_pos (by omega), no (by omega)]; rfl
  · rw [if_pos (by omega), no (by omega)]; rfl
  · rw [if_neg (by omega), k.1]; rfl
  · rw [if_pos (by omega), no (by omega)]; rfl
  · have : tAr t = true := by
      unfold tAr
      rw [decide_eq_true k.1, decide_eq_true k.2.1]
      simp
    rw [if_neg (by omega), this]; rfl
theorem tHo_g {x : jC} {g : Nat} {u : Nat → Int} (hn : x.1 ≠ 2 ∧ x.1 ≠ 4 ∧ x.1 ≠ 43 ∧ ¬ (x.1 = 39 ∨ x.1 = 40)) : tHo us fl bl xb x g u = allR (fun k => tSu us fl xb x (wn x.1 k) (u (12 + g - tkX bl x)) (u (12 + g - tkX bl x + k))) (tkX bl x) 0 := by
  unfold tHo
  rw [if_neg hn.1, if_neg hn.2.1, if_neg hn.2.2.1, if_neg hn.2.2.2]
theorem tHo_1 {x : jC} {g : Nat} {u : Nat → Int} (hn : x.1 ≠ 2 ∧ x.1 ≠ 4 ∧ x.1 ≠ 43 ∧ ¬ (x.1 = 39 ∨ x.1 = 40)) (ht : tkX bl x = 1) : tHo us fl bl xb x g u = tSu us fl xb x (wn x.1 0) (u (12 + g - 1)) (u (12 + g - 1)) := by
  rw [tHo_g hn, ht]
  show (tSu us fl xb x (wn x.1 0) (u (12 + g - 1)) (u (12 + g - 1)) && true) = _
  rw [Bool.and_true]
theorem tHo_2 {x : jC} {g : Nat} {u : Nat → Int} (hn : x.1 ≠ 2 ∧ x.1 ≠ 4 ∧ x.1 ≠ 43 ∧ ¬ (x.1 = 39 ∨ x.1 = 40)) (ht : tkX bl x = 2) : tHo us fl bl xb x g u = (tSu us fl xb x (wn x.1 0) (u (12 + g - 2)) (u (12 + g - 2)) && tSu us fl xb x (wn x.1 1) (u (12 + g - 2)) (u (12 + g - 1))) := by
  rw [tHo_g hn, ht]
  show (tSu us fl xb x (wn x.1 0) (u (12 + g - 2)) (u (12 + g - 2)) && (tSu us fl xb x (wn x.1 1) (u (12 + g - 2)) (u (12 + g - 2 + 1)) && true)) = _
  rw [Bool.and_true, show 12 + g - 2 + 1 = 12 + g - 1 by omega]
theorem tHo_3 {x : jC} {g : Nat} {u : Nat → Int} (hn : x.1 ≠ 2 ∧ x.1 ≠ 4 ∧ x.1 ≠ 43 ∧ ¬ (x.1 = 39 ∨ x.1 = 40)) (ht : tkX bl x = 3) : tHo us fl bl xb x g u = (tSu us fl xb x (wn x.1 0) (u (12 + g - 3)) (u (12 + g - 3)) && (tSu us fl xb x (wn x.1 1) (u (12 + g - 3)) (u (12 + g - 2)) && tSu us fl xb x (wn x.1 2) (u (12 + g - 3)) (u (12 + g - 1)))) := by
  rw [tHo_g hn, ht]
  show (tSu us fl xb x (wn x.1 0) (u (12 + g - 3)) (u (12 + g - 3)) && (tSu us fl xb x (wn x.1 1) (u (12 + g - 3)) (u (12 + g - 3 + 1)) && (tSu us fl xb x (wn x.1 2) (u (12 + g - 3)) (u (12 + g - 3 + 2)) && true))) = _
  rw [Bool.and_true, show 12 + g - 3 + 1 = 12 + g - 2 by omega, show 12 + g - 3 + 2 = 12 + g - 1 by omega]
/-- arguments -/
theorem m_args (hP : P = 122 ∨ P = 168) (h : tCx ns us fl bl z b xb e M) {S : nk_S} (hv : rTv S P (ns, us, fl, bl, z, el) e M) {i : Nat} {x : jC} (h1 : e.1 ≤ i) (h2 : i < e.2.1) (hx : z.1[i]? = some x) (hc : x.1 = 39 ∨ x.1 = 40) {u : Nat → Int} (hu : ∀ k, tV us (u k)) {g : Nat} (hg : g ≤ 8) (htk : tkX bl x ≤ g) (h228 : ∀ k, k < 12 + g → S.1 228 k = rvU (u k)) (h25 : S.1 121 25 = ((12 + g : Nat) : Int)) : ja_X13_areArguments 121 P (i : Int) (rA x) S = some (bi (allR (fun k => tLe us (u (12 + g - tkX bl x + k)) (tTold bl x k)) (tkX bl x) 0), S) := by
  obtain ⟨hbo, hcw, hi⟩ := cW_at h h1 h2 hx
  have huO := h.2.2.2.1
  have hl := h.2.2.2.2.1
  have h32 := h.2.2.2.2.2.2.1
  have h32' : us.length ≤ 32 := by omega
  obtain ⟨f, c, y, q1, q2, q3, q4, q5, q6, q7, q8, q9⟩ := told_v h hcw hc
  have hC : rUs S P us := fun k hk => hv.1.2.1 k (by show k < ns.length; omega)
  have hB : rB0 S P f y := hv.1.2.2.2.2.2.2.1 f y q2
  have hCd : rCd S P z.1 := hv.1.2.2.2.2.2.2.2.2.2.1
  obtain ⟨c1, c2, c3, -⟩ := hCd.2 i x hx
  have er : rA x = (f : Int) := by unfold rA; rw [if_neg (by omega), if_neg (by omega)]; exact q1
  have eb : rB2 x = (c : Int) := by unfold rB2; rw [if_neg (by omega)]; exact q4
  have c1' : S.1 (P + (22 - 7)) i = (x.1 : Int) := c1
  have c3' : S.1 (P + (24 - 7)) i = (c : Int) := by rw [← eb]; exact c3
  have b8 : S.1 (P + (15 - 7)) f = (y.ps.length : Int) := hB.2.2.1
  obtain ⟨tk, htk'⟩ : ∃ tk, tk = tkX bl x := ⟨_, rfl⟩
  rw [← htk'] at htk q6 ⊢
  have vt : ∀ k, k < tk → tV us (tTold bl x k) := fun k hk => by
    rcases q8 k (by omega) with r | r
    · exact r.1
    · rw [r]; have := h.2.2.2.2.2.1; unfold tV; omega
  have loop : ∀ (d k m : Nat), k + d = tk → d < m → ja_X13_areArguments_L11 m 121 P (i : Int) (f : Int) (tk : Int) (k : Int) S = some (bi (allR (fun k => tLe us (u (12 + g - tk + k)) (tTold bl x k)) d k), S) := by
    intro d
    induction d with
    | zero =>
      intro k m a1 a2
      obtain ⟨m, rfl⟩ : ∃ q, m = q + 1 := ⟨m - 1, by omega⟩
      show ja_X13_areArguments_b11 (ja_X13_areArguments_L11 m) 121 P (i : Int) (f : Int) (tk : Int) (k : Int) S = _
      unfold ja_X13_areArguments_b11
      rw [if_pos (by omega)]
      rfl
    | succ d ih =>
      intro k m a1 a2
      obtain ⟨m, rfl⟩ : ∃ q, m = q + 1 := ⟨m - 1, by omega⟩
      have ih' := ih (k + 1) m (by omega) (by omega)
      have e58 : ja_X13_areArguments_b58 (ja_X13_areArguments_L11 m) 121 P (i : Int) (f : Int) (tk : Int) (k : Int) (rvU (tTold bl x k)) S = some (bi (allR (fun k => tLe us (u (12 + g - tk + k)) (tTold bl x k)) (d + 1) k), S) := by
        unfold ja_X13_areArguments_b58
        rw [h25, wisub (by omega) (by omega), wiadd (by omega), if_pos (in_i (N := 24) (by omega)), jc_121_24, Int.toNat_natCast, h228 _ (by omega), m_isBe hP hC huO h32' (hu _) (vt k (by omega)), bd_some, allR]
        cases tLe us (u (12 + g - tk + k)) (tTold bl x k) with
        | false => rw [if_pos (show bi false = 0 from rfl), Bool.false_and]; rfl
        | true => rw [if_neg (show ¬ bi true = 0 by decide), Bool.true_and, lt_eq, w_nat1 (by omega)]; exact ih'
      have e46 : ¬ (k = 0 ∧ x.1 = 40) → ja_X13_areArguments_b46 (ja_X13_areArguments_L11 m) 121 P (i : Int) (f : Int) (tk : Int) (k : Int) S = some (bi (allR (fun k => tLe us (u (12 + g - tk + k)) (tTold bl x k)) (d + 1) k), S) := by
        intro hn
        have hkk : y.ps[k]? = some (y.ps.getD k 0) := by rw [List.getD_eq_getElem?_getD, List.getElem?_eq_getElem (by omega), Option.getD_some]
        have e9 : S.1 (P + (16 - 7)) (f * 12 + k) = rvT (y.ps.getD k 0) := hB.2.2.2.1 k _ (by omega) hkk
        have ev : rvT (y.ps.getD k 0) = rvU (tTold bl x k) := by
          rw [q9 k hn]
          refine rvU_T ?_
          rw [← q9 k hn]
          rcases q8 k (by omega) with r | r
          · exact Or.inr r.2
          · exact Or.inl r
        unfold ja_X13_areArguments_b46
        rw [w_12 (by omega) (by omega), if_pos (in_i (N := 576) (by omega)), (jcP hP 16 (by decide) : ja_c P 16 = P + 9), Int.toNat_natCast, e9, ev]
        exact e58
      show ja_X13_areArguments_b11 (ja_X13_areArguments_L11 m) 121 P (i : Int) (f : Int) (tk : Int) (k : Int) S = _
      unfold ja_X13_areArguments_b11
      rw [if_neg (by omega)]
      by_cases ck : k = 0
      · rw [if_pos (by omega), if_pos (in_i (N := 1024) (by omega)), (jcP hP 22 (by decide) : ja_c P 22 = P + 15), (jcP hP 24 (by decide) : ja_c P 24 = P + 17), Int.toNat_natCast, c1', c3']
        by_cases c40 : x.1 = 40
        · have et : tTold bl x k = 4 + 2 * (c : Int) := by unfold tTold; rw [if_pos ⟨ck, c40⟩, q4]
          have e8 : nk_w (8 + (c : Int)) = rvU (tTold bl x k) := by
            rw [et, show (8 : Int) + (c : Int) = ((8 + c : Nat) : Int) by omega, nk_w_id (by omega) (by omega)]
            unfold rvU
            rw [if_neg (by omega), if_neg (by omega), if_neg (by omega), if_neg (by omega), if_pos (by omega)]
            omega
          rw [if_pos (nc_p (k := 40) (K := 40) rfl c40), e8]
          exact e58
        · rw [if_neg (nc_n (k := 40) (K := 40) rfl c40)]
          exact e46 (fun q => c40 q.2)
      · rw [if_neg (by omega)]
        exact e46 (fun q => ck q.1)
  obtain ⟨bm, hbm⟩ := big_ge 100 (by decide)
  unfold ja_X13_areArguments
  rw [er, if_pos (in_i (N := 48) (by omega)), lt_eq, (jcP hP 15 (by decide) : ja_c P 15 = P + 8), Int.toNat_natCast, b8, ← q6]
  exact loop tk 0 nk_big (by omega) (by omega)
theorem m_fits (hP : P = 122 ∨ P = 168) (h : tCx ns us fl bl z b xb e M) {S : nk_S} (hv : rTv S P (ns, us, fl, bl, z, el) e M) {X : jX} (hm : rTm M e S X) (hX : tOK us xb.lc.toNat M e X) {i : Nat} {x : jC} {u : Nat → Int} (hx : z.1[i]? = some x) (hXi : X i = some u) : ∃ S', ja_X13_fits 121 P (i : Int) S = some (bi (tHo us fl bl xb x (hgt (M i)) u), S') ∧ rFs S S' ∧ rTm M e S' X := by
  obtain ⟨o1, o2, o3, o4⟩ := hX i u hXi
  have hu : ∀ k, tV us (u k) := fun k => (o4 k).1
  obtain ⟨hbo, hcw, hi⟩ := cW_at h o1 o2 hx
  obtain ⟨t1, t2, t3⟩ := tk_b h o1 o2 hx o3
  obtain ⟨l1, l2, l3⟩ := lc_12 h
  have huO := h.2.2.2.1
  have hl := h.2.2.2.2.1
  have h8 := h.2.2.2.2.2.1
  have h32 := h.2.2.2.2.2.2.1
  have h32' : us.length ≤ 32 := by omega
  have tb := h.2.2.2.2.2.2.2.2.1
  have hxb := h.2.2.2.2.2.2.2.2.2.2.2.1
  have hbl := h.2.2.2.2.2.2.2.2.2.2.2.2.2.1
  have hb48 := at_lt hxb
  obtain ⟨A, a1, a2, a3, h228, h25⟩ := m_tAt hP hi hm hXi (hv.2 i o1 o2 o3)
  have vA := rTv_s hP a2 hv
  have hC : rUs A P us := fun k hk => vA.1.2.1 k (by show k < ns.length; omega)
  have hFl : ∀ (f : Nat) (y : List Int × Nat × Int), fl[f]? = some y → A.1 (P + 3) f = (y.2.1 : Int) ∧ A.1 (P + 4) f = rvT y.2.2 := vA.1.2.2.2.1
  have hB : ∀ (b : Nat) (y : jB), bl[b]? = some y → rB0 A P b y := vA.1.2.2.2.2.2.2.1
  have hCd : rCd A P z.1 := vA.1.2.2.2.2.2.2.2.2.2.1
  obtain ⟨c1, c2, c3, c4, -⟩ := hCd.2 i x hx
  have ht := m_howM hP hi c1 c2 (fun b y hy => (hB b y hy).2.2.1) hbl hcw
  have i1024 : (0 : Int) ≤ (i : Int) ∧ (i : Int) < 1024 := in_i (N := 1024) (by omega)
  refine ⟨A, ?_, a2, a3⟩
  have hargs := fun hc => m_args (el := el) hP h vA o1 o2 hx hc hu t3 t1 h228 h25
  obtain ⟨g, hg⟩ : ∃ g, g = hgt (M i) := ⟨_, rfl⟩
  rw [← hg] at h228 h25 t1 t2 t3 hargs ⊢
  obtain ⟨tk, htk⟩ : ∃ tk, tk = tkX bl x := ⟨_, rfl⟩
  have hargs' : x.1 = 39 ∨ x.1 = 40 → ja_X13_areArguments 121 P (i : Int) (rA x) A = some (bi (tHo us fl bl xb x g u), A) := by
    intro hc
    rw [hargs hc]
    unfold tHo
    rw [if_neg (by omega), if_neg (by omega), if_neg (by omega), if_pos hc]
  clear hargs
  rw [← htk] at ht t1 t2
  have gval : ∀ k, k < 12 + g → A.1 228 k = rvU (u k) := h228
  obtain ⟨L6, hL6⟩ : ∃ L6 : Int, L6 = if tk = 0 then 2 else rvU (u (12 + g - 1)) := ⟨_, rfl⟩
  obtain ⟨S0, hS0⟩ : ∃ S0 : Int, S0 = if tk ≤ 1 then 2 else rvU (u (12 + g - 2)) := ⟨_, rfl⟩
  obtain ⟨G, hG⟩ : ∃ G : Bool, G = tHo us fl bl xb x g u := ⟨_, rfl⟩
  rw [← hG] at hargs' ⊢
  have c1' : A.1 (P + (22 - 7)) i = (x.1 : Int) := c1
  have c2' : A.1 (P + (23 - 7)) i = rA x := c2
  have c3' : A.1 (P + (24 - 7)) i = rB2 x := c3
  have c4' : A.1 (P + (25 - 7)) i = (b : Int) := by rw [← hbo]; exact c4
  have b10 : A.1 (P + (17 - 7)) b = rvT xb.rs := (hB b xb hxb).2.2.2.2.1
  have hrs : rvT xb.rs = -1 ↔ xb.rs = -1 := by
    rcases (tb xb (List.mem_of_getElem? hxb)).2 with q | q
    · rw [q]; exact ⟨fun _ => rfl, fun _ => rfl⟩
    · obtain ⟨r1, r2⟩ := tOk_V q hl
      obtain ⟨-, -, -, -, -, -, -, -, -, s10, -⟩ := rvU_s h32' r1
      rw [rvU_T r2]
      constructor
      · intro w; omega
      · intro w; omega
  have hstart : ja_X13_fits 121 P (i : Int) S = ja_X13_fits_b71 121 P (i : Int) (x.1 : Int) (rA x) L6 S0 A := by
    have s2 : ∀ l : Int, ja_X13_fits_b48 121 P (i : Int) (x.1 : Int) (rA x) (tk : Int) l A = ja_X13_fits_b71 121 P (i : Int) (x.1 : Int) (rA x) l S0 A := by
      intro l
      unfold ja_X13_fits_b48
      rw [h25, hS0]
      by_cases c : tk ≤ 1
      · rw [if_pos (by omega), if_pos c]
      · rw [if_neg (by omega), if_neg c, show ((12 + g : Nat) : Int) - 2 = ((12 + g : Nat) : Int) - ((2 : Nat) : Int) by omega, wisub (by omega) (by omega), if_pos (in_i (N := 24) (by omega)), jc_121_24, Int.toNat_natCast, gval _ (by omega)]
    unfold ja_X13_fits
    rw [a1, bd_some, if_pos i1024, lt_eq, lt_eq, (jcP hP 22 (by decide) : ja_c P 22 = P + 15), (jcP hP 23 (by decide) : ja_c P 23 = P + 16), Int.toNat_natCast, c1', c2', ht, bd_some, s2, h25, s2, hL6]
    by_cases c : tk = 0
    · rw [if_pos (by omega), if_pos c]
    · rw [if_neg (by omega), if_neg c, show ((12 + g : Nat) : Int) - 1 = ((12 + g : Nat) : Int) - ((1 : Nat) : Int) by omega, wisub (by omega) (by omega), if_pos (in_i (N := 24) (by omega)), jc_121_24, Int.toNat_natCast, gval _ (by omega)]
  have eL : ∀ _ : Unit, tk ≠ 0 → L6 = rvU (u (12 + g - 1)) := fun _ q => by rw [hL6, if_neg q]
  have eS : ∀ _ : Unit, ¬ tk ≤ 1 → S0 = rvU (u (12 + g - 2)) := fun _ q => by rw [hS0, if_neg q]
  -- the tests
  have tI : ∀ t, tV us t → ∀ (α : Type) (p q : α), (if rvU t = 0 then p else q) = if decide (t = 1) = true then p else q := by
    intro t vt α p q
    by_cases c : t = 1
    · rw [if_pos ((rvU_s h32' vt).2.1.mpr c), if_pos (decide_eq_true c)]
    · rw [if_neg (fun w => c ((rvU_s h32' vt).2.1.mp w)), if_neg (fun w => c (of_decide_eq_true w))]
  have bE : ∀ (c : Bool) (T : nk_S), (if c = true then some ((1 : Int), T) else some (0, T)) = some (bi c, T) := by
    intro c T; cases c <;> rfl
  have bF : ∀ (c : Bool) (T : nk_S), (if bi c = 0 then some ((0 : Int), T) else some (1, T)) = some (bi c, T) := by
    intro c T; cases c <;> rfl
  have bG : ∀ (c : Bool) (T : nk_S), (if bi c = 0 ∨ bi c = 1 then some (bi c, T) else none) = some (bi c, T) := fun c T => if_pos (bi_01 c)
  have v1 := hu (12 + g - 1)
  have v2 := hu (12 + g - 2)
  have v3 := hu (12 + g - 3)
  have tkn : ∀ _ : Unit, ¬ (x.1 = 39 ∨ x.1 = 40) → tk = tkT x.1 := fun _ hn => by rw [htk, (tkX_n hn).1]
  have b572 : ∀ _ : Unit, tk = 2 → ja_X13_fits_b572 L6 S0 A = some (bi (decide (u (12 + g - 2) = 1) && decide (u (12 + g - 1) = 1)), A) := by
    intro _ q
    unfold ja_X13_fits_b572
    rw [eL () (by omega), eS () (by omega), tI _ v1, tI _ v2]
    cases decide (u (12 + g - 2) = 1) <;> cases decide (u (12 + g - 1) = 1) <;> rfl
  have hD : ∀ _ : Unit, x.1 < 2 ∨ x.1 = 3 ∨ (5 ≤ x.1 ∧ x.1 ≤ 17) ∨ (19 ≤ x.1 ∧ x.1 ≤ 25) ∨ x.1 = 30 ∨ 44 = x.1 → ja_X13_fits_b548 (x.1 : Int) L6 S0 A = some (bi G, A) := by
    intro _ q
    by_cases q2 : (8 ≤ x.1 ∧ x.1 ≤ 17) ∨ (20 ≤ x.1 ∧ x.1 ≤ 25)
    · obtain ⟨k1, k2, k3⟩ := tk_w2 x.1 hcw.1 q2
      have ek : tk = 2 := by rw [tkn () (by omega)]; exact k1
      have eG : G = (decide (u (12 + g - 2) = 1) && decide (u (12 + g - 1) = 1)) := by
        rw [hG, tHo_2 ⟨by omega, by omega, by omega, by omega⟩ (by rw [← htk]; exact ek), k2, k3]
        rfl
      have hb := b572 () ek
      rw [← eG] at hb
      unfold ja_X13_fits_b548 ja_X13_fits_b560
      rcases q2 with r | r
      · rw [if_neg (by omega), if_pos (by omega)]; exact hb
      · rw [if_neg (by omega), if_neg (by omega), if_neg (by omega), if_neg (by omega)]; exact hb
    · have eG : G = true := by
        rw [hG, tHo_g ⟨by omega, by omega, by omega, by omega⟩]
        exact allR_t (fun k => by rw [wn_4 x.1 hcw.1 (by omega)]; rfl) _ _
      rw [eG]
      unfold ja_X13_fits_b548 ja_X13_fits_b560
      by_cases r : x.1 < 8
      · rw [if_pos (by omega), if_pos (by omega)]; rfl
      · rw [if_neg (by omega), if_neg (by omega)]
        by_cases r2 : x.1 < 20
        · rw [if_pos (by omega)]; rfl
        · rw [if_neg (by omega), if_pos (by omega)]; rfl
  have h2 : ∀ _ : Unit, x.1 = 2 → (if 0 ≤ rA x ∧ rA x < 24 then (if (A.1 (ja_c 121 24) (rA x).toNat) = 2 then some ((0 : Int), A) else some (1, A)) else none) = some (bi G, A) := by
    intro _ q
    have er : rA x = x.2.1 := by unfold rA; rw [if_neg (by omega), if_neg (by omega)]
    have hb := hcw.2.2.1 (Or.inl (by rw [q]; exact fK_loc.1))
    have eG : G = decide (u x.2.1.toNat ≠ 0) := by rw [hG]; unfold tHo; rw [if_pos q]
    rw [er, if_pos (by omega), jc_121_24, gval _ (by omega), eG]
    by_cases c : u x.2.1.toNat = 0
    · rw [if_pos ((rvU_s h32' (hu _)).1.mpr c), decide_eq_false (fun w => w c)]; rfl
    · rw [if_neg (fun w => c ((rvU_s h32' (hu _)).1.mp w)), decide_eq_true c]; rfl
  have h4 : ∀ _ : Unit, x.1 = 4 → (if 0 ≤ rA x ∧ rA x < 24 then (if (A.1 (ja_c 121 24) (rA x).toNat) = 0 then some ((1 : Int), A) else some (0, A)) else none) = some (bi G, A) := by
    intro _ q
    have er : rA x = x.2.1 := by unfold rA; rw [if_neg (by omega), if_neg (by omega)]
    have hb := hcw.2.2.1 (Or.inr (by rw [q]; exact fK_loc.2.2))
    have eG : G = decide (u x.2.1.toNat = 1) := by rw [hG]; unfold tHo; rw [if_neg (by omega), if_pos q]
    rw [er, if_pos (by omega), jc_121_24, gval _ (by omega), tI _ (hu _), eG]
    exact bE _ _
  have hI : ∀ _ : Unit, x.1 = 18 ∨ x.1 = 31 ∨ x.1 = 45 → ja_X13_fits_b325 L6 A = some (bi G, A) := by
    intro _ q
    obtain ⟨k1, k2⟩ := tk_I x.1 hcw.1 q
    have ek : tk = 1 := by rw [tkn () (by omega)]; exact k1
    have eG : G = decide (u (12 + g - 1) = 1) := by
      rw [hG, tHo_1 ⟨by omega, by omega, by omega, by omega⟩ (by rw [← htk]; exact ek), k2]
      rfl
    unfold ja_X13_fits_b325
    rw [eL () (by omega), tI _ v1, eG]
    exact bE _ _
  have hR : ∀ _ : Unit, x.1 = 26 ∨ x.1 = 27 ∨ x.1 = 37 ∨ x.1 = 38 → ja_X13_fits_b297 L6 A = some (bi G, A) := by
    intro _ q
    obtain ⟨k1, k2⟩ := tk_R x.1 hcw.1 q
    have ek : tk = 1 := by rw [tkn () (by omega)]; exact k1
    have eG : G = decide (2 ≤ u (12 + g - 1)) := by
      rw [hG, tHo_1 ⟨by omega, by omega, by omega, by omega⟩ (by rw [← htk]; exact ek), k2]
      rfl
    unfold ja_X13_fits_b297
    rw [eL () (by omega), m_refT h32' v1, bd_some, eG]
    exact bG _ _
  have hRR : ∀ _ : Unit, x.1 = 28 ∨ x.1 = 29 → ja_X13_fits_b303 L6 S0 A = some (bi G, A) := by
    intro _ q
    obtain ⟨k1, k2, k3⟩ := tk_RR x.1 hcw.1 q
    have ek : tk = 2 := by rw [tkn () (by omega)]; exact k1
    have eG : G = (decide (2 ≤ u (12 + g - 2)) && decide (2 ≤ u (12 + g - 1))) := by
      rw [hG, tHo_2 ⟨by omega, by omega, by omega, by omega⟩ (by rw [← htk]; exact ek), k2, k3]
      rfl
    unfold ja_X13_fits_b303
    rw [eL () (by omega), eS () (by omega), m_refT h32' v1, bd_some, m_refT h32' v2, bd_some, eG]
    cases decide (2 ≤ u (12 + g - 2)) <;> cases decide (2 ≤ u (12 + g - 1)) <;> rfl
  have t2e : ∀ t, tV us t → (rvU t = 1 ↔ t = 2) := fun t vt => (rvU_s h32' vt).2.2.1
  have arr : ∀ t, tV us t → (if rvU t = 1 then some ((1 : Int), A) else nk_bd (ja_X13_isArrayType (rvU t) A) fun r5 S6 => if r5 = 0 then some (0, S6) else some (1, S6)) = some (bi (decide (t = 2) || tAr t), A) := by
    intro t vt
    by_cases c : t = 2
    · rw [if_pos ((t2e t vt).mpr c), decide_eq_true c]; rfl
    · rw [if_neg (fun w => c ((t2e t vt).mp w)), m_arrT h32' vt, bd_some, decide_eq_false c, Bool.false_or]
      exact bF _ _
  have h32x : ∀ _ : Unit, x.1 = 32 → (if L6 = 1 then some ((1 : Int), A) else nk_bd (ja_X13_isArrayType L6 A) fun r5 S6 => if r5 = 0 then some (0, S6) else some (1, S6)) = some (bi G, A) := by
    intro _ q
    have ek : tk = 1 := by rw [tkn () (by omega), q]; exact tk_sp.1
    have eG : G = (decide (u (12 + g - 1) = 2) || tAr (u (12 + g - 1))) := by
      rw [hG, tHo_1 ⟨by omega, by omega, by omega, by omega⟩ (by rw [← htk]; exact ek), q]
      rfl
    rw [eL () (by omega), eG]
    exact arr _ v1
  have h33 : ∀ _ : Unit, x.1 = 33 → (if L6 = 0 then (if S0 = 1 then some ((1 : Int), A) else nk_bd (ja_X13_isArrayType S0 A) fun r8 S9 => if r8 = 0 then some (0, S9) else some (1, S9)) else some (0, A)) = some (bi G, A) := by
    intro _ q
    have ek : tk = 2 := by rw [tkn () (by omega), q]; exact tk_sp.2.1
    have eG : G = ((decide (u (12 + g - 2) = 2) || tAr (u (12 + g - 2))) && decide (u (12 + g - 1) = 1)) := by
      rw [hG, tHo_2 ⟨by omega, by omega, by omega, by omega⟩ (by rw [← htk]; exact ek), q]
      rfl
    rw [eL () (by omega), eS () (by omega), tI _ v1, arr _ v2, eG]
    cases decide (u (12 + g - 1) = 1) with
    | true => rw [if_pos rfl, Bool.and_true]
    | false => rw [if_neg (by decide), Bool.and_false]; rfl
  have h34 : ∀ _ : Unit, x.1 = 34 → (if S0 = 0 then (if 0 ≤ (nk_w ((A.1 121 25) - 3)) ∧ (nk_w ((A.1 121 25) - 3)) < 24 then nk_bd (ja_X13_isElement P (A.1 (ja_c 121 24) (nk_w ((A.1 121 25) - 3)).toNat) L6 A) fun r13 S14 => if r13 = 0 then some ((0 : Int), S14) else some (1, S14) else none) else some (0, A)) = some (bi G, A) := by
    intro _ q
    have ek : tk = 3 := by rw [tkn () (by omega), q]; exact tk_sp.2.2.1
    have eG : G = ((decide (u (12 + g - 3) = 2) || tAr (u (12 + g - 3))) && (decide (u (12 + g - 2) = 1) && (if u (12 + g - 3) = 2 then decide (u (12 + g - 1) ≠ 0) else tLe us (u (12 + g - 1)) (tEl (u (12 + g - 3)))))) := by
      rw [hG, tHo_3 ⟨by omega, by omega, by omega, by omega⟩ (by rw [← htk]; exact ek), q]
      rfl
    have hel : ja_X13_isElement P (rvU (u (12 + g - 3))) (rvU (u (12 + g - 1))) A = some (bi ((decide (u (12 + g - 3) = 2) || tAr (u (12 + g - 3))) && (if u (12 + g - 3) = 2 then decide (u (12 + g - 1) ≠ 0) else tLe us (u (12 + g - 1)) (tEl (u (12 + g - 3))))), A) := by
      unfold ja_X13_isElement
      by_cases c : u (12 + g - 3) = 2
      · rw [if_pos ((t2e _ v3).mpr c), decide_eq_true c, Bool.true_or, Bool.true_and, if_pos c]
        by_cases d : u (12 + g - 1) = 0
        · rw [if_pos ((rvU_s h32' v1).1.mpr d), decide_eq_false (fun w => w d)]; rfl
        · rw [if_neg (fun w => d ((rvU_s h32' v1).1.mp w)), decide_eq_true d]; rfl
      · rw [if_neg (fun w => c ((t2e _ v3).mp w)), decide_eq_false c, Bool.false_or, if_neg c, m_arrT h32' v3, bd_some]
        cases hta : tAr (u (12 + g - 3)) with
        | false => rw [if_pos (show bi false = 0 from rfl), Bool.false_and]; rfl
        | true =>
          have ve : tV us (tEl (u (12 + g - 3))) := by
            have v3' := v3
            unfold tAr at hta
            unfold tEl
            unfold tV at v3' ⊢
            by_cases d5 : u (12 + g - 3) = 3
            · rw [if_pos d5]; omega
            · rw [if_neg d5]
              have : 4 < u (12 + g - 3) := by
                simp [d5] at hta
                exact hta.1
              omega
          rw [if_neg (show ¬ bi true = 0 by decide), Bool.true_and, m_elt h32' v3, bd_some, hta, if_pos rfl, m_isBe hP hC huO h32' v1 ve, bd_some]
          exact bF _ _
    rw [eS () (by omega), tI _ v2, h25, show ((12 + g : Nat) : Int) - 3 = ((12 + g : Nat) : Int) - ((3 : Nat) : Int) by omega, wisub (by omega) (by omega), if_pos (in_i (N := 24) (by omega)), jc_121_24, Int.toNat_natCast, gval _ (by omega), eL () (by omega), hel, bd_some, bF, eG]
    cases decide (u (12 + g - 2) = 1) with
    | true => rw [if_pos rfl, Bool.true_and]
    | false => rw [if_neg (by decide), Bool.false_and, Bool.and_false]; rfl
  have cls : ∀ _ : Unit, x.1 = 35 ∨ x.1 = 36 → nk_w (8 + rB2 x) = rvU (4 + 2 * x.2.2.1) ∧ tV us (4 + 2 * x.2.2.1) := by
    intro _ q
    obtain ⟨f, c, y, q1, q2, q3, q4, q5, q6, q7, q8⟩ := tFty_v h hcw q
    have eb : rB2 x = (c : Int) := by unfold rB2; rw [if_neg (by omega)]; exact q4
    refine ⟨?_, by unfold tV; omega⟩
    rw [eb, q4, show (8 : Int) + (c : Int) = ((8 + c : Nat) : Int) by omega, nk_w_id (by omega) (by omega)]
    unfold rvU
    rw [if_neg (by omega), if_neg (by omega), if_neg (by omega), if_neg (by omega), if_pos (by omega)]
    omega
  have h35 : ∀ _ : Unit, x.1 = 35 → (if 0 ≤ (i : Int) ∧ (i : Int) < 1024 then nk_bd (ja_X13_isBelow P L6 (nk_w (8 + (A.1 (ja_c P 24) (i : Int).toNat))) A) fun r18 S19 => if r18 = 0 ∨ r18 = 1 then some (r18, S19) else none else none) = some (bi G, A) := by
    intro _ q
    have ek : tk = 1 := by rw [tkn () (by omega), q]; exact tk_sp.2.2.2.1
    have eG : G = tLe us (u (12 + g - 1)) (4 + 2 * x.2.2.1) := by
      rw [hG, tHo_1 ⟨by omega, by omega, by omega, by omega⟩ (by rw [← htk]; exact ek), q]
      rfl
    obtain ⟨k1, k2⟩ := cls () (Or.inl q)
    rw [if_pos i1024, (jcP hP 24 (by decide) : ja_c P 24 = P + 17), Int.toNat_natCast, c3', k1, eL () (by omega), m_isBe hP hC huO h32' v1 k2, bd_some, eG]
    exact bG _ _
  have h36 : ∀ _ : Unit, x.1 = 36 → (if 0 ≤ (i : Int) ∧ (i : Int) < 1024 then nk_bd (ja_X13_isBelow P S0 (nk_w (8 + (A.1 (ja_c P 24) (i : Int).toNat))) A) fun r24 S25 => if r24 = 0 then some ((0 : Int), S25) else if 0 ≤ rA x ∧ rA x < 48 then nk_bd (ja_X13_isBelow P L6 (S25.1 (ja_c P 11) (rA x).toNat) S25) fun r29 S30 => if r29 = 0 then some (0, S30) else some (1, S30) else none else none) = some (bi G, A) := by
    intro _ q
    have ek : tk = 2 := by rw [tkn () (by omega), q]; exact tk_sp.2.2.2.2.1
    have eG : G = (tLe us (u (12 + g - 2)) (4 + 2 * x.2.2.1) && tLe us (u (12 + g - 1)) (tFty fl x)) := by
      rw [hG, tHo_2 ⟨by omega, by omega, by omega, by omega⟩ (by rw [← htk]; exact ek), q]
      rfl
    obtain ⟨k1, k2⟩ := cls () (Or.inr q)
    obtain ⟨f, c, y, q1, q2, q3, q4, q5, q6, q7, q8⟩ := tFty_v h hcw (Or.inr q)
    have er : rA x = (f : Int) := by unfold rA; rw [if_neg (by omega), if_neg (by omega)]; exact q1
    have e4 : A.1 (P + (11 - 7)) f = rvU (tFty fl x) := by
      rw [← rvU_T q8, q6]
      exact (hFl f y q2).2
    rw [if_pos i1024, (jcP hP 24 (by decide) : ja_c P 24 = P + 17), Int.toNat_natCast, c3', k1, eS () (by omega), eL () (by omega), m_isBe hP hC huO h32' v2 k2, bd_some, er, if_pos (in_i (N := 48) (by omega)), (jcP hP 11 (by decide) : ja_c P 11 = P + 4), Int.toNat_natCast, e4, m_isBe hP hC huO h32' v1 q7, bd_some, eG, bF]
    cases tLe us (u (12 + g - 2)) (4 + 2 * x.2.2.1) with
    | false => rw [if_pos (show bi false = 0 from rfl), Bool.false_and]; rfl
    | true => rw [if_neg (show ¬ bi true = 0 by decide), Bool.true_and]
  have h39 : ∀ _ : Unit, x.1 = 39 ∨ x.1 = 40 → ja_X13_fits_b468 121 P (i : Int) (rA x) A = some (bi G, A) := by
    intro _ q
    unfold ja_X13_fits_b468
    rw [hargs' q, bd_some]
    exact bG _ _
  clear hargs'
  have h41 : ∀ _ : Unit, x.1 = 41 → (nk_bd (ja_X13_isBelow P L6 9 A) fun r32 S33 => if r32 = 0 ∨ r32 = 1 then some (r32, S33) else none) = some (bi G, A) := by
    intro _ q
    have ek : tk = 1 := by rw [tkn () (by omega), q]; exact tk_sp.2.2.2.2.2.1
    have eG : G = tLe us (u (12 + g - 1)) 6 := by
      rw [hG, tHo_1 ⟨by omega, by omega, by omega, by omega⟩ (by rw [← htk]; exact ek), q]
      rfl
    rw [eL () (by omega), show (9 : Int) = rvU 6 from rfl, m_isBe hP hC huO h32' v1 (by unfold tV; omega), bd_some, eG]
    exact bG _ _
  have h42 : ∀ _ : Unit, x.1 = 42 → (if 0 ≤ (i : Int) ∧ (i : Int) < 1024 then if 0 ≤ (A.1 (ja_c P 25) (i : Int).toNat) ∧ (A.1 (ja_c P 25) (i : Int).toNat) < 48 then if (A.1 (ja_c P 17) (A.1 (ja_c P 25) (i : Int).toNat).toNat) = (-1) then some ((0 : Int), A) else nk_bd (ja_X13_isBelow P L6 (A.1 (ja_c P 17) (A.1 (ja_c P 25) (i : Int).toNat).toNat) A) fun r40 S41 => if r40 = 0 then some (0, S41) else some (1, S41) else none else none) = some (bi G, A) := by
    intro _ q
    have ek : tk = 1 := by rw [tkn () (by omega), q]; exact tk_sp.2.2.2.2.2.2
    have eG : G = (decide (xb.rs ≠ -1) && tLe us (u (12 + g - 1)) xb.rs) := by
      rw [hG, tHo_1 ⟨by omega, by omega, by omega, by omega⟩ (by rw [← htk]; exact ek), q]
      rfl
    rw [if_pos i1024, (jcP hP 25 (by decide) : ja_c P 25 = P + 18), (jcP hP 17 (by decide) : ja_c P 17 = P + 10), Int.toNat_natCast, c4', if_pos (in_i (N := 48) (by omega)), Int.toNat_natCast, b10, eL () (by omega), eG]
    rcases (tb xb (List.mem_of_getElem? hxb)).2 with r | r
    · rw [if_pos (hrs.mpr r), decide_eq_false (fun w => w r), Bool.false_and]; rfl
    · obtain ⟨r1, r2⟩ := tOk_V r hl
      have hne : ¬ xb.rs = -1 := by omega
      rw [if_neg (fun w => hne (hrs.mp w)), decide_eq_true hne, Bool.true_and, rvU_T r2, m_isBe hP hC huO h32' v1 r1, bd_some]
      exact bF _ _
  have h43 : ∀ _ : Unit, x.1 = 43 → (if 0 ≤ (i : Int) ∧ (i : Int) < 1024 then if 0 ≤ (A.1 (ja_c P 25) (i : Int).toNat) ∧ (A.1 (ja_c P 25) (i : Int).toNat) < 48 then if (A.1 (ja_c P 17) (A.1 (ja_c P 25) (i : Int).toNat).toNat) = (-1) then some ((1 : Int), A) else some (0, A) else none else none) = some (bi G, A) := by
    intro _ q
    have eG : G = decide (xb.rs = -1) := by rw [hG]; unfold tHo; rw [if_neg (by omega), if_neg (by omega), if_pos q]
    rw [if_pos i1024, (jcP hP 25 (by decide) : ja_c P 25 = P + 18), (jcP hP 17 (by decide) : ja_c P 17 = P + 10), Int.toNat_natCast, c4', if_pos (in_i (N := 48) (by omega)), Int.toNat_natCast, b10, eG]
    by_cases r : xb.rs = -1
    · rw [if_pos (hrs.mpr r), decide_eq_true r]; rfl
    · rw [if_neg (fun w => r (hrs.mp w)), decide_eq_false r]; rfl
  have hx46 := hcw.1
  have hgo : ja_X13_fits_b71 121 P (i : Int) (x.1 : Int) (rA x) L6 S0 A = some (bi G, A) := by
    unfold ja_X13_fits_b71
    by_cases c2 : x.1 = 2
    · rw [if_pos (show (x.1 : Int) = 2 from nc_p (k := 2) rfl c2)]; exact h2 () c2
    rw [if_neg (show ¬ (x.1 : Int) = 2 from nc_n (k := 2) rfl c2)]
    by_cases c3 : x.1 = 3
    · rw [if_pos (show (x.1 : Int) = 3 from nc_p (k := 3) rfl c3)]; exact hD () (by rw [c3]; decide)
    rw [if_neg (show ¬ (x.1 : Int) = 3 from nc_n (k := 3) rfl c3)]
    by_cases c4 : x.1 = 4
    · rw [if_pos (show (x.1 : Int) = 4 from nc_p (k := 4) rfl c4)]; exact h4 () c4
    rw [if_neg (show ¬ (x.1 : Int) = 4 from nc_n (k := 4) rfl c4)]
    by_cases c5 : x.1 = 5
    · rw [if_pos (show (x.1 : Int) = 5 from nc_p (k := 5) rfl c5)]; exact hD () (by rw [c5]; decide)
    rw [if_neg (show ¬ (x.1 : Int) = 5 from nc_n (k := 5) rfl c5)]
    by_cases c6 : x.1 = 6
    · rw [if_pos (show (x.1 : Int) = 6 from nc_p (k := 6) rfl c6)]; exact hD () (by rw [c6]; decide)
    rw [if_neg (show ¬ (x.1 : Int) = 6 from nc_n (k := 6) rfl c6)]
    by_cases c7 : x.1 = 7
    · rw [if_pos (show (x.1 : Int) = 7 from nc_p (k := 7) rfl c7)]; exact hD () (by rw [c7]; decide)
    rw [if_neg (show ¬ (x.1 : Int) = 7 from nc_n (k := 7) rfl c7)]
    by_cases c8 : x.1 = 8
    · rw [if_pos (show (x.1 : Int) = 8 from nc_p (k := 8) rfl c8)]; exact hD () (by rw [c8]; decide)
    rw [if_neg (show ¬ (x.1 : Int) = 8 from nc_n (k := 8) rfl c8)]
    by_cases c9 : x.1 = 9
    · rw [if_pos (show (x.1 : Int) = 9 from nc_p (k := 9) rfl c9)]; exact hD () (by rw [c9]; decide)
    rw [if_neg (show ¬ (x.1 : Int) = 9 from nc_n (k := 9) rfl c9)]
    by_cases c10 : x.1 = 10
    · rw [if_pos (show (x.1 : Int) = 10 from nc_p (k := 10) rfl c10)]; exact hD () (by rw [c10]; decide)
    rw [if_neg (show ¬ (x.1 : Int) = 10 from nc_n (k := 10) rfl c10)]
    by_cases c11 : x.1 = 11
    · rw [if_pos (show (x.1 : Int) = 11 from nc_p (k := 11) rfl c11)]; exact hD () (by rw [c11]; decide)
    rw [if_neg (show ¬ (x.1 : Int) = 11 from nc_n (k := 11) rfl c11)]
    by_cases c12 : x.1 = 12
    · rw [if_pos (show (x.1 : Int) = 12 from nc_p (k := 12) rfl c12)]; exact hD () (by rw [c12]; decide)
    rw [if_neg (show ¬ (x.1 : Int) = 12 from nc_n (k := 12) rfl c12)]
    by_cases c13 : x.1 = 13
    · rw [if_pos (show (x.1 : Int) = 13 from nc_p (k := 13) rfl c13)]; exact hD () (by rw [c13]; decide)
    rw [if_neg (show ¬ (x.1 : Int) = 13 from nc_n (k := 13) rfl c13)]
    by_cases c14 : x.1 = 14
    · rw [if_pos (show (x.1 : Int) = 14 from nc_p (k := 14) rfl c14)]; exact hD () (by rw [c14]; decide)
    rw [if_neg (show ¬ (x.1 : Int) = 14 from nc_n (k := 14) rfl c14)]
    by_cases c15 : x.1 = 15
    · rw [if_pos (show (x.1 : Int) = 15 from nc_p (k := 15) rfl c15)]; exact hD () (by rw [c15]; decide)
    rw [if_neg (show ¬ (x.1 : Int) = 15 from nc_n (k := 15) rfl c15)]
    by_cases c16 : x.1 = 16
    · rw [if_pos (show (x.1 : Int) = 16 from nc_p (k := 16) rfl c16)]; exact hD () (by rw [c16]; decide)
    rw [if_neg (show ¬ (x.1 : Int) = 16 from nc_n (k := 16) rfl c16)]
    by_cases c17 : x.1 = 17
    · rw [if_pos (show (x.1 : Int) = 17 from nc_p (k := 17) rfl c17)]; exact hD () (by rw [c17]; decide)
    rw [if_neg (show ¬ (x.1 : Int) = 17 from nc_n (k := 17) rfl c17)]
    by_cases c18 : x.1 = 18
    · rw [if_pos (show (x.1 : Int) = 18 from nc_p (k := 18) rfl c18)]; exact hI () (by rw [c18]; decide)
    rw [if_neg (show ¬ (x.1 : Int) = 18 from nc_n (k := 18) rfl c18)]
    by_cases c19 : x.1 = 19
    · rw [if_pos (show (x.1 : Int) = 19 from nc_p (k := 19) rfl c19)]; exact hD () (by rw [c19]; decide)
    rw [if_neg (show ¬ (x.1 : Int) = 19 from nc_n (k := 19) rfl c19)]
    by_cases c20 : x.1 = 20
    · rw [if_pos (show (x.1 : Int) = 20 from nc_p (k := 20) rfl c20)]; exact hD () (by rw [c20]; decide)
    rw [if_neg (show ¬ (x.1 : Int) = 20 from nc_n (k := 20) rfl c20)]
    by_cases c21 : x.1 = 21
    · rw [if_pos (show (x.1 : Int) = 21 from nc_p (k := 21) rfl c21)]; exact hD () (by rw [c21]; decide)
    rw [if_neg (show ¬ (x.1 : Int) = 21 from nc_n (k := 21) rfl c21)]
    by_cases c22 : x.1 = 22
    · rw [if_pos (show (x.1 : Int) = 22 from nc_p (k := 22) rfl c22)]; exact hD () (by rw [c22]; decide)
    rw [if_neg (show ¬ (x.1 : Int) = 22 from nc_n (k := 22) rfl c22)]
    by_cases c23 : x.1 = 23
    · rw [if_pos (show (x.1 : Int) = 23 from nc_p (k := 23) rfl c23)]; exact hD () (by rw [c23]; decide)
    rw [if_neg (show ¬ (x.1 : Int) = 23 from nc_n (k := 23) rfl c23)]
    by_cases c24 : x.1 = 24
    · rw [if_pos (show (x.1 : Int) = 24 from nc_p (k := 24) rfl c24)]; exact hD () (by rw [c24]; decide)
    rw [if_neg (show ¬ (x.1 : Int) = 24 from nc_n (k := 24) rfl c24)]
    by_cases c25 : x.1 = 25
    · rw [if_pos (show (x.1 : Int) = 25 from nc_p (k := 25) rfl c25)]; exact hD () (by rw [c25]; decide)
    rw [if_neg (show ¬ (x.1 : Int) = 25 from nc_n (k := 25) rfl c25)]
    by_cases c26 : x.1 = 26
    · rw [if_pos (show (x.1 : Int) = 26 from nc_p (k := 26) rfl c26)]; exact hR () (by rw [c26]; decide)
    rw [if_neg (show ¬ (x.1 : Int) = 26 from nc_n (k := 26) rfl c26)]
    by_cases c27 : x.1 = 27
    · rw [if_pos (show (x.1 : Int) = 27 from nc_p (k := 27) rfl c27)]; exact hR () (by rw [c27]; decide)
    rw [if_neg (show ¬ (x.1 : Int) = 27 from nc_n (k := 27) rfl c27)]
    by_cases c28 : x.1 = 28
    · rw [if_pos (show (x.1 : Int) = 28 from nc_p (k := 28) rfl c28)]; exact hRR () (by rw [c28]; decide)
    rw [if_neg (show ¬ (x.1 : Int) = 28 from nc_n (k := 28) rfl c28)]
    by_cases c29 : x.1 = 29
    · rw [if_pos (show (x.1 : Int) = 29 from nc_p (k := 29) rfl c29)]; exact hRR () (by rw [c29]; decide)
    rw [if_neg (show ¬ (x.1 : Int) = 29 from nc_n (k := 29) rfl c29)]
    by_cases c30 : x.1 = 30
    · rw [if_pos (show (x.1 : Int) = 30 from nc_p (k := 30) rfl c30)]; exact hD () (by rw [c30]; decide)
    rw [if_neg (show ¬ (x.1 : Int) = 30 from nc_n (k := 30) rfl c30)]
    by_cases c31 : x.1 = 31
    · rw [if_pos (show (x.1 : Int) = 31 from nc_p (k := 31) rfl c31)]; exact hI () (by rw [c31]; decide)
    rw [if_neg (show ¬ (x.1 : Int) = 31 from nc_n (k := 31) rfl c31)]
    by_cases c32 : x.1 = 32
    · rw [if_pos (show (x.1 : Int) = 32 from nc_p (k := 32) rfl c32)]; exact h32x () c32
    rw [if_neg (show ¬ (x.1 : Int) = 32 from nc_n (k := 32) rfl c32)]
    by_cases c33 : x.1 = 33
    · rw [if_pos (show (x.1 : Int) = 33 from nc_p (k := 33) rfl c33)]; exact h33 () c33
    rw [if_neg (show ¬ (x.1 : Int) = 33 from nc_n (k := 33) rfl c33)]
    by_cases c34 : x.1 = 34
    · rw [if_pos (show (x.1 : Int) = 34 from nc_p (k := 34) rfl c34)]; exact h34 () c34
    rw [if_neg (show ¬ (x.1 : Int) = 34 from nc_n (k := 34) rfl c34)]
    by_cases c35 : x.1 = 35
    · rw [if_pos (show (x.1 : Int) = 35 from nc_p (k := 35) rfl c35)]; exact h35 () c35
    rw [if_neg (show ¬ (x.1 : Int) = 35 from nc_n (k := 35) rfl c35)]
    by_cases c36 : x.1 = 36
    · rw [if_pos (show (x.1 : Int) = 36 from nc_p (k := 36) rfl c36)]; exact h36 () c36
    rw [if_neg (show ¬ (x.1 : Int) = 36 from nc_n (k := 36) rfl c36)]
    by_cases c37 : x.1 = 37
    · rw [if_pos (show (x.1 : Int) = 37 from nc_p (k := 37) rfl c37)]; exact hR () (by rw [c37]; decide)
    rw [if_neg (show ¬ (x.1 : Int) = 37 from nc_n (k := 37) rfl c37)]
    by_cases c38 : x.1 = 38
    · rw [if_pos (show (x.1 : Int) = 38 from nc_p (k := 38) rfl c38)]; exact hR () (by rw [c38]; decide)
    rw [if_neg (show ¬ (x.1 : Int) = 38 from nc_n (k := 38) rfl c38)]
    by_cases c39 : x.1 = 39
    · rw [if_pos (show (x.1 : Int) = 39 from nc_p (k := 39) rfl c39)]; exact h39 () (Or.inl c39)
    rw [if_neg (show ¬ (x.1 : Int) = 39 from nc_n (k := 39) rfl c39)]
    by_cases c40 : x.1 = 40
    · rw [if_pos (show (x.1 : Int) = 40 from nc_p (k := 40) rfl c40)]; exact h39 () (Or.inr c40)
    rw [if_neg (show ¬ (x.1 : Int) = 40 from nc_n (k := 40) rfl c40)]
    by_cases c41 : x.1 = 41
    · rw [if_pos (show (x.1 : Int) = 41 from nc_p (k := 41) rfl c41)]; exact h41 () c41
    rw [if_neg (show ¬ (x.1 : Int) = 41 from nc_n (k := 41) rfl c41)]
    by_cases c42 : x.1 = 42
    · rw [if_pos (show (x.1 : Int) = 42 from nc_p (k := 42) rfl c42)]; exact h42 () c42
    rw [if_neg (show ¬ (x.1 : Int) = 42 from nc_n (k := 42) rfl c42)]
    by_cases c43 : x.1 = 43
    · rw [if_pos (show (x.1 : Int) = 43 from nc_p (k := 43) rfl c43)]; exact h43 () c43
    rw [if_neg (show ¬ (x.1 : Int) = 43 from nc_n (k := 43) rfl c43)]
    by_cases c44 : x.1 = 44
    · rw [if_pos (show (x.1 : Int) = 44 from nc_p (k := 44) rfl c44)]; exact hD () (by rw [c44]; decide)
    rw [if_neg (show ¬ (x.1 : Int) = 44 from nc_n (k := 44) rfl c44)]
    by_cases c45 : x.1 = 45
    · rw [if_pos (show (x.1 : Int) = 45 from nc_p (k := 45) rfl c45)]; exact hI () (by rw [c45]; decide)
    rw [if_neg (show ¬ (x.1 : Int) = 45 from nc_n (k := 45) rfl c45)]
    exact hD () (by omega)
  rw [hstart]
  exact hgo
end MFI
