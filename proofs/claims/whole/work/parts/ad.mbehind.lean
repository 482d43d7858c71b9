/-! Types: what the reference does at an instruction. -/
theorem nc_p {a k : Nat} {K : Int} (hK : (k : Int) = K) (h : a = k) : (a : Int) = K := by rw [h]; exact hK
theorem nc_n {a k : Nat} {K : Int} (hK : (k : Int) = K) (h : ¬ a = k) : ¬ (a : Int) = K := by rw [← hK]; omega
section MBE
variable {ns : List (List Int)} {us : List Int} {fl : List (List Int × Nat × Int)} {bl : List jB} {z : jL} {el : List (Nat × Nat × Nat × Nat)} {b : Nat} {xb : jB} {e : Nat × Nat × Nat × Nat} {M : Nat → Nat} {P : Nat}
theorem m_leave {S : nk_S} {t : Nat} {v : Int} (h : S.1 121 25 = (t : Int)) (ht : t < 24) : ja_X13_leave 121 v S = some (0, nk_wi (nk_wi S 228 t v) 121 25 ((t + 1 : Nat) : Int)) := by
  have e : (nk_wi S 228 t v).1 121 25 = (t : Int) := by rw [wi_n (by decide)]; exact h
  unfold ja_X13_leave
  rw [h, if_pos (in_i (N := 24) (by omega)), jc_121_24, Int.toNat_natCast, lt_eq, lt_eq, e, w_nat1 (by omega)]
theorem m_elt (h32 : us.length ≤ 32) {t : Int} (v : tV us t) (S : nk_S) : ja_X13_elementOf (rvU t) S = some (rvU (if tAr t = true then tEl t else 0), S) := by
  obtain ⟨a1, a2, a3, a4, a5, a6, a7, a8, a9, a10, a11⟩ := rvU_s h32 v
  unfold ja_X13_elementOf
  by_cases c3 : t = 3
  · rw [if_pos (a4.mpr c3), c3]; rfl
  rw [if_neg (fun q => c3 (a4.mp q))]
  by_cases c : 3 < t ∧ t % 2 = 1
  · have t4 : tAr t = true := by
      unfold tAr
      rw [decide_eq_true (show 4 < t by omega), decide_eq_true c.2]
      simp
    obtain ⟨f1, f2⟩ := a9 c.1 c.2
    rw [if_neg (show ¬ rvU t < 48 by omega), if_pos t4, f1, show (48 : Int) + (cl t : Int) - 48 = (cl t : Int) by omega, nk_w_id (show (-2147483648 : Int) ≤ (cl t : Int) by omega) (by omega), show (cl t : Int) + 8 = ((cl t + 8 : Nat) : Int) by omega, nk_w_id (by omega) (by omega)]
    unfold tEl
    rw [if_neg c3]
    have e2 : cl (t - 1) = cl t := by unfold cl; omega
    obtain ⟨-, -, -, -, -, -, -, b8, -⟩ := rvU_s (us := us) h32 (t := t - 1) (by unfold tV at v ⊢; omega)
    obtain ⟨g1, g2⟩ := b8 (by omega) (by omega)
    rw [g1, e2]
    congr 2
    omega
  · have t4 : ¬ tAr t = true := by
      unfold tAr
      intro q
      rw [Bool.or_eq_true, Bool.and_eq_true] at q
      rcases q with q | q
      · exact c3 (of_decide_eq_true q)
      · exact c ⟨by have := of_decide_eq_true q.1; omega, of_decide_eq_true q.2⟩
    have : ¬ 48 ≤ rvU t := fun q => c (a7.mp q)
    rw [if_pos (by omega), if_neg t4]
    rfl
/-- the slots between the locals and the stack stay unset -/
theorem tPf_z (h : tCx ns us fl bl z b xb e M) {i : Nat} {x : jC} (h1 : e.1 ≤ i) (h2 : i < e.2.1) (hx : z.1[i]? = some x) (h0 : M i ≠ 0) {u v : Nat → Int} (hp : tPf fl bl z.2.1 x (hgt (M i)) u = some v) {k : Nat} (hk1 : xb.lc.toNat ≤ k) (hk2 : k < 12) : v k = u k := by
  obtain ⟨hbo, hcw, hi⟩ := cW_at h h1 h2 hx
  obtain ⟨t1, t2, t3⟩ := tk_b h h1 h2 hx h0
  obtain ⟨l1, l2, l3⟩ := lc_12 h
  unfold tPf at hp
  have up : ∀ (a : Nat → Int) (s : Nat) (t : Int), k ≠ s → tUp a s t k = a k := fun a s t hs => by unfold tUp; rw [if_neg hs]
  by_cases c1 : x.1 = 3
  · rw [if_pos c1] at hp
    cases hp
    have := hcw.2.2.1 (Or.inl (by rw [c1]; exact fK_loc.2.1))
    exact up _ _ _ (by omega)
  rw [if_neg c1] at hp
  by_cases c2 : x.1 = 5
  · rw [if_pos c2] at hp
    cases hp
    exact up _ _ _ (by omega)
  rw [if_neg c2] at hp
  by_cases c3 : x.1 = 7
  · rw [if_pos c3] at hp
    cases hp
    have e7 : tkX bl x = 2 := by rw [(tkX_n (by omega)).1, c3]; exact tk_op.2.2.1
    rw [up _ _ _ (by omega), up _ _ _ (by omega)]
  rw [if_neg c3] at hp
  by_cases c4 : lvX bl x = 0
  · rw [if_pos c4] at hp; cases hp; rfl
  rw [if_neg c4] at hp
  split at hp
  · cases hp
  · cases hp
    exact up _ _ _ (by omega)
/-- what the reference does to the types -/
theorem m_beh (hP : P = 122 ∨ P = 168) (h : tCx ns us fl bl z b xb e M) {S : nk_S} (hv : rTv S P (ns, us, fl, bl, z, el) e M) {i : Nat} {x : jC} (h1 : e.1 ≤ i) (h2 : i < e.2.1) (hx : z.1[i]? = some x) (h0 : M i ≠ 0) {u v : Nat → Int} (hu : ∀ k, tV us (u k)) (h228 : ∀ k, k < 12 + hgt (M i) → S.1 228 k = rvU (u k)) (h25 : S.1 121 25 = ((12 + hgt (M i) : Nat) : Int)) (hp : tPf fl bl z.2.1 x (hgt (M i)) u = some v) : ∃ S', ja_X13_typesBehind 121 P (i : Int) S = some (0, S') ∧ S'.2 = S.2 ∧ (∀ a, a ≠ 121 → a ≠ 228 → S'.1 a = S.1 a) ∧ (∀ f, f ≠ 25 → S'.1 121 f = S.1 121 f) ∧ ∀ k, k < 12 + (hgt (M i) - tkX bl x + lvX bl x) → S'.1 228 k = rvU (v k) := by
  obtain ⟨hbo, hcw, hi⟩ := cW_at h h1 h2 hx
  obtain ⟨t1, t2, t3⟩ := tk_b h h1 h2 hx h0
  obtain ⟨l1, l2, l3⟩ := lc_12 h
  have hl := h.2.2.2.2.1
  have h32 := h.2.2.2.2.2.2.1
  have h32' : us.length ≤ 32 := by omega
  have tb := h.2.2.2.2.2.2.2.2.1
  have hbl := h.2.2.2.2.2.2.2.2.2.2.2.2.2.1
  have hfl48 := h.2.2.2.2.2.2.2.2.2.2.2.2.1
  have hsl48 := h.2.2.2.2.2.2.2.2.2.2.2.2.2.2.2.1
  have tf := h.2.2.2.2.2.2.2.1
  have hFl : ∀ (f : Nat) (y : List Int × Nat × Int), fl[f]? = some y → S.1 (P + 3) f = (y.2.1 : Int) ∧ S.1 (P + 4) f = rvT y.2.2 := hv.1.2.2.2.1
  have hB : ∀ (b : Nat) (y : jB), bl[b]? = some y → rB0 S P b y := hv.1.2.2.2.2.2.2.1
  have hCd : rCd S P z.1 := hv.1.2.2.2.2.2.2.2.2.2.1
  have hSl : rSl S P z.2.1 := hv.1.2.2.2.2.2.2.2.2.2.2.1
  have hrs : ∀ y ∈ bl, y.rs = -1 ∨ 1 ≤ y.rs := fun y hy => by
    rcases (tb y hy).2 with q | q
    · exact Or.inl q
    · have := tOk_V q hl; omega
  obtain ⟨c1, c2, -⟩ := hCd.2 i x hx
  have ht := m_howM hP hi c1 c2 (fun b y hy => (hB b y hy).2.2.1) hbl hcw
  obtain ⟨g, hg⟩ : ∃ g, g = hgt (M i) := ⟨_, rfl⟩
  rw [← hg] at h228 h25 hp t1 t2 t3 ⊢
  obtain ⟨tk, htk⟩ : ∃ tk, tk = tkX bl x := ⟨_, rfl⟩
  rw [← htk] at ht t1 t2 ⊢
  obtain ⟨A, hA⟩ : ∃ A, A = nk_wi S 121 25 ((12 + g - tk : Nat) : Int) := ⟨_, rfl⟩
  have A25 : A.1 121 25 = ((12 + g - tk : Nat) : Int) := by rw [hA, wi_at, if_pos rfl]
  have An : ∀ a, a ≠ 121 → A.1 a = S.1 a := fun a ha => by rw [hA, wi_n ha]
  have Af : ∀ f, f ≠ 25 → A.1 121 f = S.1 121 f := fun f hf => by rw [hA, wi_at, if_neg hf]
  have A2 : A.2 = S.2 := by rw [hA]; rfl
  obtain ⟨R, hR⟩ : ∃ R : Option (Int × nk_S) → Prop, R = fun o => ∃ S', o = some (0, S') ∧ S'.2 = S.2 ∧ (∀ a, a ≠ 121 → a ≠ 228 → S'.1 a = S.1 a) ∧ (∀ f, f ≠ 25 → S'.1 121 f = S.1 121 f) ∧ ∀ k, k < 12 + (g - tk + lvX bl x) → S'.1 228 k = rvU (v k) := ⟨_, rfl⟩
  have A228 : ∀ k, k < 12 + g → A.1 228 k = rvU (u k) := fun k hk => by rw [An 228 (by decide)]; exact h228 k hk
  have hl5 := m_leavR hP hi (S := A) (by rw [An (P + 15) (by omega)]; exact c1) (by rw [An (P + 16) (by omega)]; exact c2) (fun b y hy => by rw [An (P + 10) (by omega)]; exact (hB b y hy).2.2.2.2.1) hrs hbl hcw
  obtain ⟨L5, hL5⟩ : ∃ L5 : Int, L5 = if g = 0 then 2 else rvU (u (12 + g - 1)) := ⟨_, rfl⟩
  obtain ⟨S0, hS0⟩ : ∃ S0 : Int, S0 = if g ≤ 1 then 2 else rvU (u (12 + g - 2)) := ⟨_, rfl⟩
  have hstart : ja_X13_typesBehind 121 P (i : Int) S = ja_X13_typesBehind_b65 121 P (i : Int) (x.1 : Int) (rA x) L5 S0 S := by
    have c1' : S.1 (P + (22 - 7)) i = (x.1 : Int) := c1
    have c2' : S.1 (P + (23 - 7)) i = rA x := c2
    have s2 : ∀ l : Int, ja_X13_typesBehind_b39 121 P (i : Int) (x.1 : Int) (rA x) l S = ja_X13_typesBehind_b65 121 P (i : Int) (x.1 : Int) (rA x) l S0 S := by
      intro l
      unfold ja_X13_typesBehind_b39
      rw [h25, hS0]
      by_cases c : g ≤ 1
      · rw [if_pos (by omega), if_pos c]
      · rw [if_neg (by omega), if_neg c, show ((12 + g : Nat) : Int) - 2 = ((12 + g : Nat) : Int) - ((2 : Nat) : Int) by omega, wisub (by omega) (by omega), if_pos (in_i (N := 24) (by omega)), jc_121_24, Int.toNat_natCast, h228 _ (by omega)]
    unfold ja_X13_typesBehind
    rw [if_pos (in_i (N := 1024) (by omega)), lt_eq, lt_eq, (jcP hP 22 (by decide) : ja_c P 22 = P + 15), (jcP hP 23 (by decide) : ja_c P 23 = P + 16), Int.toNat_natCast, c1', c2', h25, s2, s2, hL5]
    by_cases c : g = 0
    · rw [if_pos (by omega), if_pos c]
    · rw [if_neg (by omega), if_neg c, show ((12 + g : Nat) : Int) - 1 = ((12 + g : Nat) : Int) - ((1 : Nat) : Int) by omega, wisub (by omega) (by omega), if_pos (in_i (N := 24) (by omega)), jc_121_24, Int.toNat_natCast, h228 _ (by omega)]
  -- nothing is left
  have hNo : ∀ _ : Unit, lvX bl x = 0 → x.1 ≠ 3 → R (some (0, A)) := by
    intro _ hlv hn3
    rw [hR]
    have e5 : x.1 ≠ 5 := fun q => by rw [(tkX_n (by omega)).2, q, tk_op.2.2.2.2.2.1] at hlv; cases hlv
    have e7 : x.1 ≠ 7 := fun q => by rw [(tkX_n (by omega)).2, q, tk_op.2.2.2.2.2.2.1] at hlv; cases hlv
    unfold tPf at hp
    rw [if_neg hn3, if_neg e5, if_neg e7, if_pos hlv] at hp
    cases hp
    exact ⟨A, rfl, A2, fun a x _ => An a x, Af, fun k hk => A228 k (by omega)⟩
  -- one is left
  have hYes : ∀ (t : Int), lvX bl x = 1 → x.1 ≠ 3 → t = rvU (tLf fl bl z.2.1 x u (12 + g - tk)) → R (nk_bd (ja_X13_leave 121 t A) fun _ T => some (0, T)) := by
    intro t hlv hn3 htt
    rw [hR]
    have e5 : x.1 ≠ 5 := fun q => by rw [(tkX_n (by omega)).2, q, tk_op.2.2.2.2.2.1] at hlv; cases hlv
    have e7 : x.1 ≠ 7 := fun q => by rw [(tkX_n (by omega)).2, q, tk_op.2.2.2.2.2.2.1] at hlv; cases hlv
    unfold tPf at hp
    rw [if_neg hn3, if_neg e5, if_neg e7, if_neg (by omega), ← htk] at hp
    rw [m_leave A25 (by omega), bd_some]
    split at hp
    · cases hp
    · cases hp
      refine ⟨_, rfl, A2, fun a p q => by rw [wi_n p, wi_n q, An a p], fun f hf => by rw [wi_at, if_neg hf, wi_n (by decide), Af f hf], fun k hk => ?_⟩
      rw [wi_n (by decide), wi_at]
      unfold tUp
      by_cases c : k = 12 + g - tk
      · rw [if_pos c, if_pos c, htt]
      · rw [if_neg c, if_neg c]
        exact A228 k (by omega)
  have lv01 : ∀ _ : Unit, ¬ x.1 = 5 → ¬ x.1 = 7 → lvX bl x = 0 ∨ lvX bl x = 1 := by
    intro _ e5 e7
    by_cases cc : x.1 = 39 ∨ x.1 = 40
    · unfold lvX
      rw [if_pos cc]
      split
      · split
        · exact Or.inl rfl
        · exact Or.inr rfl
      · exact Or.inl rfl
    · rw [(tkX_n cc).2]
      have := lv_1 x.1 hcw.1 e5 e7
      omega
  have h394 : ∀ _ : Unit, ¬ (x.1 = 1 ∨ x.1 = 2 ∨ x.1 = 3 ∨ x.1 = 5 ∨ x.1 = 7 ∨ x.1 = 30 ∨ x.1 = 31 ∨ x.1 = 33 ∨ x.1 = 35 ∨ x.1 = 37 ∨ x.1 = 39 ∨ x.1 = 40) → R (ja_X13_typesBehind_b394 121 P (i : Int) A) := by
    intro _ hn
    unfold ja_X13_typesBehind_b394
    rw [hl5, bd_some]
    have et : tLf fl bl z.2.1 x u (12 + g - tk) = 1 := by
      unfold tLf
      rw [if_neg (by omega), if_neg (by omega), if_neg (by omega), if_neg (by omega), if_neg (by omega), if_neg (by omega), if_neg (by omega)]
    rcases lv01 () (by omega) (by omega) with q | q
    · rw [q, if_neg (by decide)]; exact hNo () q (by omega)
    · rw [q, if_pos (by decide)]; exact hYes 0 q (by omega) (by rw [et]; rfl)
  have hone : ∀ o, (o = 1 ∨ o = 2 ∨ o = 30 ∨ o = 31 ∨ o = 33 ∨ o = 35 ∨ o = 37) → lvT o = 1 := by
    intro o ho
    rcases ho with q | q | q | q | q | q | q <;> (rw [q]; decide +kernel)
  have hlvT : ∀ _ : Unit, (x.1 = 1 ∨ x.1 = 2 ∨ x.1 = 30 ∨ x.1 = 31 ∨ x.1 = 33 ∨ x.1 = 35 ∨ x.1 = 37) → lvX bl x = 1 := by
    intro _ q
    rw [(tkX_n (by omega)).2]
    exact hone x.1 q
  have h1 : ∀ _ : Unit, x.1 = 1 → R (nk_bd (ja_X13_leave 121 1 A) fun _ T => some (0, T)) := by
    intro _ q
    refine hYes 1 (hlvT () (by omega)) (by omega) ?_
    unfold tLf
    rw [if_pos q]; rfl
  have h2 : ∀ _ : Unit, x.1 = 2 → R (if 0 ≤ rA x ∧ rA x < 24 then nk_bd (ja_X13_leave 121 (A.1 (ja_c 121 24) (rA x).toNat) A) fun _ T => some (0, T) else none) := by
    intro _ q
    have er : rA x = x.2.1 := by unfold rA; rw [if_neg (by omega), if_neg (by omega)]
    have hb := hcw.2.2.1 (Or.inl (by rw [q]; exact fK_loc.1))
    rw [er, if_pos (by omega), jc_121_24]
    refine hYes _ (hlvT () (by omega)) (by omega) ?_
    unfold tLf
    rw [if_neg (by omega), if_pos q]
    exact A228 _ (by omega)
  have h3 : ∀ _ : Unit, x.1 = 3 → R (if 0 ≤ rA x ∧ rA x < 24 then nk_lt (nk_wi A (ja_c 121 24) (rA x).toNat L5) fun T => some (0, T) else none) := by
    intro _ q
    have er : rA x = x.2.1 := by unfold rA; rw [if_neg (by omega), if_neg (by omega)]
    have hb := hcw.2.2.1 (Or.inl (by rw [q]; exact fK_loc.2.1))
    have ek : tk = 1 := by rw [htk, (tkX_n (by omega)).1, q]; exact tk_op.1
    have el : lvX bl x = 0 := by rw [(tkX_n (by omega)).2, q]; exact tk_op.2.2.2.2.1
    rw [er, if_pos (by omega), jc_121_24, lt_eq, hR, hL5, if_neg (by omega)]
    unfold tPf at hp
    rw [if_pos q] at hp
    cases hp
    refine ⟨_, rfl, A2, fun a p q => by rw [wi_n q, An a p], fun f hf => by rw [wi_n (by decide), Af f hf], fun k hk => ?_⟩
    rw [wi_at]
    unfold tUp
    by_cases c : k = x.2.1.toNat
    · rw [if_pos c, if_pos c]
    · rw [if_neg c, if_neg c]
      exact A228 k (by omega)
  have h5 : ∀ _ : Unit, x.1 = 5 → R (nk_bd (ja_X13_leave 121 L5 A) fun _ T => nk_bd (ja_X13_leave 121 L5 T) fun _ T => some (0, T)) := by
    intro _ q
    have ek : tk = 1 := by rw [htk, (tkX_n (by omega)).1, q]; exact tk_op.2.1
    have el : lvX bl x = 2 := by rw [(tkX_n (by omega)).2, q]; exact tk_op.2.2.2.2.2.1
    unfold tPf at hp
    rw [if_neg (by omega), if_pos q] at hp
    cases hp
    rw [m_leave A25 (by omega), bd_some, m_leave (t := 12 + g - tk + 1) (by rw [wi_at, if_pos rfl]) (by omega), bd_some, hR, hL5, if_neg (by omega)]
    refine ⟨_, rfl, A2, fun a p q => by rw [wi_n p, wi_n q, wi_n p, wi_n q, An a p], fun f hf => by rw [wi_at, if_neg hf, wi_n (by decide), wi_at, if_neg hf, wi_n (by decide), Af f hf], fun k hk => ?_⟩
    rw [wi_n (by decide), wi_at, wi_n (by decide), wi_at]
    unfold tUp
    by_cases c : k = 12 + g
    · rw [if_pos (by omega), if_pos c]
    · rw [if_neg (by omega), if_neg c]
      by_cases c' : k = 12 + g - 1
      · rw [if_pos (by omega), c']
      · rw [if_neg (by omega)]
        exact A228 k (by omega)
  have h7 : ∀ _ : Unit, x.1 = 7 → R (nk_bd (ja_X13_leave 121 L5 A) fun _ T => nk_bd (ja_X13_leave 121 S0 T) fun _ T => some (0, T)) := by
    intro _ q
    have ek : tk = 2 := by rw [htk, (tkX_n (by omega)).1, q]; exact tk_op.2.2.1
    have el : lvX bl x = 2 := by rw [(tkX_n (by omega)).2, q]; exact tk_op.2.2.2.2.2.2.1
    unfold tPf at hp
    rw [if_neg (by omega), if_neg (by omega), if_pos q] at hp
    cases hp
    rw [m_leave A25 (by omega), bd_some, m_leave (t := 12 + g - tk + 1) (by rw [wi_at, if_pos rfl]) (by omega), bd_some, hR, hL5, hS0, if_neg (by omega), if_neg (by omega)]
    refine ⟨_, rfl, A2, fun a p q => by rw [wi_n p, wi_n q, wi_n p, wi_n q, An a p], fun f hf => by rw [wi_at, if_neg hf, wi_n (by decide), wi_at, if_neg hf, wi_n (by decide), Af f hf], fun k hk => ?_⟩
    rw [wi_n (by decide), wi_at, wi_n (by decide), wi_at]
    unfold tUp
    by_cases c : k = 12 + g - 2 + 1
    · rw [if_pos (by omega), if_pos c]
    · rw [if_neg (by omega), if_neg c]
      by_cases c' : k = 12 + g - 2
      · rw [if_pos (by omega), if_pos c', show 12 + g - 2 + 1 = 12 + g - 1 by omega]
      · rw [if_neg (by omega), if_neg c']
        exact A228 k (by omega)
  have h30 : ∀ _ : Unit, x.1 = 30 ∨ x.1 = 31 → R (ja_X13_typesBehind_b320 121 P (rA x) A) := by
    intro _ q
    obtain ⟨k, t, k1, k2, k3⟩ := hcw.2.2.2.2.2.2.2.1 q
    have hk48 := at_lt k2
    have er : rA x = (k : Int) := by unfold rA; rw [if_pos q]; exact k1
    have et : tLf fl bl z.2.1 x u (12 + g - tk) = t := by
      unfold tLf
      rw [if_neg (by omega), if_neg (by omega), if_pos q, k1, Int.toNat_natCast, List.getD_eq_getElem?_getD, k2, Option.getD_some]
    have ev : t = 1 ∨ 3 ≤ t := by
      rcases tLf_c h ‹e.1 ≤ i› ‹i < e.2.1› hx (by omega) u (12 + g - tk) with w | w
      · rw [hlvT () (by omega)] at w; cases w.2
      · rw [et] at w; exact w.2
    have e20 : A.1 (P + (27 - 7)) k = rvT t := by rw [An (P + (27 - 7)) (by omega)]; exact hSl.2 k t k2
    unfold ja_X13_typesBehind_b320
    rw [er, if_pos (in_i (N := 54) (by omega)), (jcP hP 27 (by decide) : ja_c P 27 = P + 20), Int.toNat_natCast, e20]
    exact hYes _ (hlvT () (by omega)) (by omega) (by rw [et, rvU_T ev])
  have h33 : ∀ _ : Unit, x.1 = 33 → R (nk_bd (ja_X13_elementOf S0 A) fun r S31 => nk_bd (ja_X13_leave 121 r S31) fun _ T => some (0, T)) := by
    intro _ q
    have ek : tk = 2 := by rw [htk, (tkX_n (by omega)).1, q]; exact tk_op.2.2.2.1
    rw [hS0, if_neg (by omega), m_elt h32' (hu _), bd_some]
    refine hYes _ (hlvT () (by omega)) (by omega) ?_
    have hp' := hp
    unfold tPf at hp'
    rw [if_neg (by omega), if_neg (by omega), if_neg (by omega), if_neg (by rw [hlvT () (by omega)]; decide), ← htk] at hp'
    have hne : ¬ tLf fl bl z.2.1 x u (12 + g - tk) = -3 := fun w => by rw [if_pos w] at hp'; cases hp'
    unfold tLf at hne ⊢
    rw [if_neg (show ¬ x.1 = 1 by omega), if_neg (show ¬ x.1 = 2 by omega), if_neg (show ¬ (x.1 = 30 ∨ x.1 = 31) by omega), if_pos q] at hne ⊢
    have hn2 : ¬ u (12 + g - tk) = 2 := fun w => hne (by rw [if_pos w])
    rw [if_neg hn2, ek]
  have h35 : ∀ _ : Unit, x.1 = 35 → R (if 0 ≤ rA x ∧ rA x < 48 then nk_bd (ja_X13_leave 121 (A.1 (ja_c P 11) (rA x).toNat) A) fun _ T => some (0, T) else none) := by
    intro _ q
    obtain ⟨f, c, y, q1, q2, q3, q4, q5, q6, q7, q8⟩ := tFty_v h hcw (Or.inl q)
    have er : rA x = (f : Int) := by unfold rA; rw [if_neg (by omega), if_neg (by omega)]; exact q1
    have e4 : A.1 (P + (11 - 7)) f = rvT y.2.2 := by rw [An (P + (11 - 7)) (by omega)]; exact (hFl f y q2).2
    rw [er, if_pos (in_i (N := 48) (by omega)), (jcP hP 11 (by decide) : ja_c P 11 = P + 4), Int.toNat_natCast, e4]
    refine hYes _ (hlvT () (by omega)) (by omega) ?_
    unfold tLf
    rw [if_neg (by omega), if_neg (by omega), if_neg (by omega), if_neg (by omega), if_pos q, q1, Int.toNat_natCast, q2]
    dsimp only
    rw [q6] at q8
    exact rvU_T q8
  have h37 : ∀ _ : Unit, x.1 = 37 → R (nk_bd (ja_X13_leave 121 (rA x) A) fun _ T => some (0, T)) := by
    intro _ q
    have er : rA x = rvT x.2.1 := by unfold rA; rw [if_neg (by omega), if_pos (by omega)]
    refine hYes _ (hlvT () (by omega)) (by omega) ?_
    have := (tOk_V (hcw.2.2.2.2.1 (Or.inr (by rw [q]; exact fK_ty.2.2.1))).1 hl).2
    unfold tLf
    rw [if_neg (by omega), if_neg (by omega), if_neg (by omega), if_neg (by omega), if_neg (by omega), if_pos q, er]
    exact rvU_T this
  have h39 : ∀ _ : Unit, x.1 = 39 ∨ x.1 = 40 → R (ja_X13_typesBehind_b369 121 P (rA x) A) := by
    intro _ q
    obtain ⟨f, c, y, q1, q2, q3, -⟩ := hcw.2.2.2.2.2.2.1 q
    have hf := at_lt q2
    have er : rA x = (f : Int) := by unfold rA; rw [if_neg (by omega), if_neg (by omega)]; exact q1
    have e10 : A.1 (P + (17 - 7)) f = rvT y.rs := by rw [An (P + (17 - 7)) (by omega)]; exact (hB f y q2).2.2.2.2.1
    have elv : lvX bl x = if y.rs = -1 then 0 else 1 := by
      unfold lvX
      rw [if_pos q, q1, Int.toNat_natCast, q2]
    unfold ja_X13_typesBehind_b369
    rw [er, if_pos (in_i (N := 48) (by omega)), (jcP hP 17 (by decide) : ja_c P 17 = P + 10), Int.toNat_natCast, e10]
    rcases (tb y (List.mem_of_getElem? q2)).2 with r | r
    · rw [r, if_pos (by decide)]
      exact hNo () (by rw [elv, if_pos r]) (by omega)
    · obtain ⟨r1, r2⟩ := tOk_V r hl
      have hne : ¬ y.rs = -1 := by omega
      obtain ⟨-, -, -, -, -, -, -, -, -, s10, -⟩ := rvU_s h32' r1
      rw [rvU_T r2, if_neg (show ¬ rvU y.rs = -1 by omega)]
      refine hYes _ (by rw [elv, if_neg hne]) (by omega) ?_
      unfold tLf
      rw [if_neg (by omega), if_neg (by omega), if_neg (by omega), if_neg (by omega), if_neg (by omega), if_neg (by omega), if_pos q, q1, Int.toNat_natCast, q2]
  have hgo : R (ja_X13_typesBehind_b65 121 P (i : Int) (x.1 : Int) (rA x) L5 S0 S) := by
    unfold ja_X13_typesBehind_b65
    rw [ht, bd_some, lt_eq, h25, wisub (by omega) (by omega), ← hA]
    clear hstart hR
    by_cases c1 : x.1 = 1
    · rw [if_pos (show (x.1 : Int) = 1 from nc_p (k := 1) rfl c1)]; exact h1 () c1
    rw [if_neg (show ¬ (x.1 : Int) = 1 from nc_n (k := 1) rfl c1)]
    by_cases c2 : x.1 = 2
    · rw [if_pos (show (x.1 : Int) = 2 from nc_p (k := 2) rfl c2)]; exact h2 () c2
    rw [if_neg (show ¬ (x.1 : Int) = 2 from nc_n (k := 2) rfl c2)]
    by_cases c3 : x.1 = 3
    · rw [if_pos (show (x.1 : Int) = 3 from nc_p (k := 3) rfl c3)]; exact h3 () c3
    rw [if_neg (show ¬ (x.1 : Int) = 3 from nc_n (k := 3) rfl c3)]
    by_cases c4 : x.1 = 4
    · rw [if_pos (show (x.1 : Int) = 4 from nc_p (k := 4) rfl c4)]; exact h394 () (by rw [c4]; decide)
    rw [if_neg (show ¬ (x.1 : Int) = 4 from nc_n (k := 4) rfl c4)]
    by_cases c5 : x.1 = 5
    · rw [if_pos (show (x.1 : Int) = 5 from nc_p (k := 5) rfl c5)]; exact h5 () c5
    rw [if_neg (show ¬ (x.1 : Int) = 5 from nc_n (k := 5) rfl c5)]
    by_cases c6 : x.1 = 6
    · rw [if_pos (show (x.1 : Int) = 6 from nc_p (k := 6) rfl c6)]; exact h394 () (by rw [c6]; decide)
    rw [if_neg (show ¬ (x.1 : Int) = 6 from nc_n (k := 6) rfl c6)]
    by_cases c7 : x.1 = 7
    · rw [if_pos (show (x.1 : Int) = 7 from nc_p (k := 7) rfl c7)]; exact h7 () c7
    rw [if_neg (show ¬ (x.1 : Int) = 7 from nc_n (k := 7) rfl c7)]
    by_cases c8 : x.1 = 8
    · rw [if_pos (show (x.1 : Int) = 8 from nc_p (k := 8) rfl c8)]; exact h394 () (by rw [c8]; decide)
    rw [if_neg (show ¬ (x.1 : Int) = 8 from nc_n (k := 8) rfl c8)]
    by_cases c9 : x.1 = 9
    · rw [if_pos (show (x.1 : Int) = 9 from nc_p (k := 9) rfl c9)]; exact h394 () (by rw [c9]; decide)
    rw [if_neg (show ¬ (x.1 : Int) = 9 from nc_n (k := 9) rfl c9)]
    by_cases c10 : x.1 = 10
    · rw [if_pos (show (x.1 : Int) = 10 from nc_p (k := 10) rfl c10)]; exact h394 () (by rw [c10]; decide)
    rw [if_neg (show ¬ (x.1 : Int) = 10 from nc_n (k := 10) rfl c10)]
    by_cases c11 : x.1 = 11
    · rw [if_pos (show (x.1 : Int) = 11 from nc_p (k := 11) rfl c11)]; exact h394 () (by rw [c11]; decide)
    rw [if_neg (show ¬ (x.1 : Int) = 11 from nc_n (k := 11) rfl c11)]
    by_cases c12 : x.1 = 12
    · rw [if_pos (show (x.1 : Int) = 12 from nc_p (k := 12) rfl c12)]; exact h394 () (by rw [c12]; decide)
    rw [if_neg (show ¬ (x.1 : Int) = 12 from nc_n (k := 12) rfl c12)]
    by_cases c13 : x.1 = 13
    · rw [if_pos (show (x.1 : Int) = 13 from nc_p (k := 13) rfl c13)]; exact h394 () (by rw [c13]; decide)
    rw [if_neg (show ¬ (x.1 : Int) = 13 from nc_n (k := 13) rfl c13)]
    by_cases c14 : x.1 = 14
    · rw [if_pos (show (x.1 : Int) = 14 from nc_p (k := 14) rfl c14)]; exact h394 () (by rw [c14]; decide)
    rw [if_neg (show ¬ (x.1 : Int) = 14 from nc_n (k := 14) rfl c14)]
    by_cases c15 : x.1 = 15
    · rw [if_pos (show (x.1 : Int) = 15 from nc_p (k := 15) rfl c15)]; exact h394 () (by rw [c15]; decide)
    rw [if_neg (show ¬ (x.1 : Int) = 15 from nc_n (k := 15) rfl c15)]
    by_cases c16 : x.1 = 16
    · rw [if_pos (show (x.1 : Int) = 16 from nc_p (k := 16) rfl c16)]; exact h394 () (by rw [c16]; decide)
    rw [if_neg (show ¬ (x.1 : Int) = 16 from nc_n (k := 16) rfl c16)]
    by_cases c17 : x.1 = 17
    · rw [if_pos (show (x.1 : Int) = 17 from nc_p (k := 17) rfl c17)]; exact h394 () (by rw [c17]; decide)
    rw [if_neg (show ¬ (x.1 : Int) = 17 from nc_n (k := 17) rfl c17)]
    by_cases c18 : x.1 = 18
    · rw [if_pos (show (x.1 : Int) = 18 from nc_p (k := 18) rfl c18)]; exact h394 () (by rw [c18]; decide)
    rw [if_neg (show ¬ (x.1 : Int) = 18 from nc_n (k := 18) rfl c18)]
    by_cases c19 : x.1 = 19
    · rw [if_pos (show (x.1 : Int) = 19 from nc_p (k := 19) rfl c19)]; exact h394 () (by rw [c19]; decide)
    rw [if_neg (show ¬ (x.1 : Int) = 19 from nc_n (k := 19) rfl c19)]
    by_cases c20 : x.1 = 20
    · rw [if_pos (show (x.1 : Int) = 20 from nc_p (k := 20) rfl c20)]; exact h394 () (by rw [c20]; decide)
    rw [if_neg (show ¬ (x.1 : Int) = 20 from nc_n (k := 20) rfl c20)]
    by_cases c21 : x.1 = 21
    · rw [if_pos (show (x.1 : Int) = 21 from nc_p (k := 21) rfl c21)]; exact h394 () (by rw [c21]; decide)
    rw [if_neg (show ¬ (x.1 : Int) = 21 from nc_n (k := 21) rfl c21)]
    by_cases c22 : x.1 = 22
    · rw [if_pos (show (x.1 : Int) = 22 from nc_p (k := 22) rfl c22)]; exact h394 () (by rw [c22]; decide)
    rw [if_neg (show ¬ (x.1 : Int) = 22 from nc_n (k := 22) rfl c22)]
    by_cases c23 : x.1 = 23
    · rw [if_pos (show (x.1 : Int) = 23 from nc_p (k := 23) rfl c23)]; exact h394 () (by rw [c23]; decide)
    rw [if_neg (show ¬ (x.1 : Int) = 23 from nc_n (k := 23) rfl c23)]
    by_cases c24 : x.1 = 24
    · rw [if_pos (show (x.1 : Int) = 24 from nc_p (k := 24) rfl c24)]; exact h394 () (by rw [c24]; decide)
    rw [if_neg (show ¬ (x.1 : Int) = 24 from nc_n (k := 24) rfl c24)]
    by_cases c25 : x.1 = 25
    · rw [if_pos (show (x.1 : Int) = 25 from nc_p (k := 25) rfl c25)]; exact h394 () (by rw [c25]; decide)
    rw [if_neg (show ¬ (x.1 : Int) = 25 from nc_n (k := 25) rfl c25)]
    by_cases c26 : x.1 = 26
    · rw [if_pos (show (x.1 : Int) = 26 from nc_p (k := 26) rfl c26)]; exact h394 () (by rw [c26]; decide)
    rw [if_neg (show ¬ (x.1 : Int) = 26 from nc_n (k := 26) rfl c26)]
    by_cases c27 : x.1 = 27
    · rw [if_pos (show (x.1 : Int) = 27 from nc_p (k := 27) rfl c27)]; exact h394 () (by rw [c27]; decide)
    rw [if_neg (show ¬ (x.1 : Int) = 27 from nc_n (k := 27) rfl c27)]
    by_cases c28 : x.1 = 28
    · rw [if_pos (show (x.1 : Int) = 28 from nc_p (k := 28) rfl c28)]; exact h394 () (by rw [c28]; decide)
    rw [if_neg (show ¬ (x.1 : Int) = 28 from nc_n (k := 28) rfl c28)]
    by_cases c29 : x.1 = 29
    · rw [if_pos (show (x.1 : Int) = 29 from nc_p (k := 29) rfl c29)]; exact h394 () (by rw [c29]; decide)
    rw [if_neg (show ¬ (x.1 : Int) = 29 from nc_n (k := 29) rfl c29)]
    by_cases c30 : x.1 = 30
    · rw [if_pos (show (x.1 : Int) = 30 from nc_p (k := 30) rfl c30)]; exact h30 () (Or.inl c30)
    rw [if_neg (show ¬ (x.1 : Int) = 30 from nc_n (k := 30) rfl c30)]
    by_cases c31 : x.1 = 31
    · rw [if_pos (show (x.1 : Int) = 31 from nc_p (k := 31) rfl c31)]; exact h30 () (Or.inr c31)
    rw [if_neg (show ¬ (x.1 : Int) = 31 from nc_n (k := 31) rfl c31)]
    by_cases c32 : x.1 = 32
    · rw [if_pos (show (x.1 : Int) = 32 from nc_p (k := 32) rfl c32)]; exact h394 () (by rw [c32]; decide)
    rw [if_neg (show ¬ (x.1 : Int) = 32 from nc_n (k := 32) rfl c32)]
    by_cases c33 : x.1 = 33
    · rw [if_pos (show (x.1 : Int) = 33 from nc_p (k := 33) rfl c33)]; exact h33 () c33
    rw [if_neg (show ¬ (x.1 : Int) = 33 from nc_n (k := 33) rfl c33)]
    by_cases c34 : x.1 = 34
    · rw [if_pos (show (x.1 : Int) = 34 from nc_p (k := 34) rfl c34)]; exact h394 () (by rw [c34]; decide)
    rw [if_neg (show ¬ (x.1 : Int) = 34 from nc_n (k := 34) rfl c34)]
    by_cases c35 : x.1 = 35
    · rw [if_pos (show (x.1 : Int) = 35 from nc_p (k := 35) rfl c35)]; exact h35 () c35
    rw [if_neg (show ¬ (x.1 : Int) = 35 from nc_n (k := 35) rfl c35)]
    by_cases c36 : x.1 = 36
    · rw [if_pos (show (x.1 : Int) = 36 from nc_p (k := 36) rfl c36)]; exact h394 () (by rw [c36]; decide)
    rw [if_neg (show ¬ (x.1 : Int) = 36 from nc_n (k := 36) rfl c36)]
    by_cases c37 : x.1 = 37
    · rw [if_pos (show (x.1 : Int) = 37 from nc_p (k := 37) rfl c37)]; exact h37 () c37
    rw [if_neg (show ¬ (x.1 : Int) = 37 from nc_n (k := 37) rfl c37)]
    by_cases c38 : x.1 = 38
    · rw [if_pos (show (x.1 : Int) = 38 from nc_p (k := 38) rfl c38)]; exact h394 () (by rw [c38]; decide)
    rw [if_neg (show ¬ (x.1 : Int) = 38 from nc_n (k := 38) rfl c38)]
    by_cases c39 : x.1 = 39
    · rw [if_pos (show (x.1 : Int) = 39 from nc_p (k := 39) rfl c39)]; exact h39 () (Or.inl c39)
    rw [if_neg (show ¬ (x.1 : Int) = 39 from nc_n (k := 39) rfl c39)]
    by_cases c40 : x.1 = 40
    · rw [if_pos (show (x.1 : Int) = 40 from nc_p (k := 40) rfl c40)]; exact h39 () (Or.inr c40)
    rw [if_neg (show ¬ (x.1 : Int) = 40 from nc_n (k := 40) rfl c40)]
    exact h394 () (by simp only [c1, c2, c3, c5, c7, c30, c31, c33, c35, c37, c39, c40, or_self, not_false_eq_true])
  rw [hstart]
  rw [hR] at hgo
  exact hgo
end MBE
