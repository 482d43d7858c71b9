/-! The run: the reference's objects. -/
/-- the reference's program and proof while it runs -/
def rXx (S : nk_S) (P : Nat) (p : jP) (A : jA) (σ : jG) : Prop := (P = 122 ∨ P = 168) ∧ S.2 121 0 = P ∧ ldR S P p A σ
/-- the heap, its cells aside -/
def rHo (p : jP) (S : nk_S) (h : Nat × (Nat → Nat) × (Nat → Nat) × (Nat → jV)) : Prop := S.1 121 53 = (h.1 : Int) ∧ S.1 121 54 = (h.2.2.1 h.1 : Int) ∧ ∀ o, o < h.1 → S.1 243 o = rvU (sTp p.2.2.2.2.1 (h.2.1 o)) ∧ S.1 244 o = (h.2.1 o : Int) ∧ S.1 245 o = (h.2.2.1 o : Int) ∧ S.1 246 o = ((h.2.2.1 (o + 1) - h.2.2.1 o : Nat) : Int)
section ROB
variable {p : jP} {m m' m1 : jM} {P Q : Nat} {tx : List (List Int)} {x : jC} {t : Nat → Int} {inp : Nat → Int} {S S' : nk_S} {A : jA} {σ : jG} {i : Nat} {v : jV}
theorem rXx_f (hF : rxF S S') (h : rXx S P p A σ) : rXx S' P p A σ := ⟨h.1, by rw [hF.1]; exact h.2.1, ldR_c h.1 (fun a x y => hF.2.1 a (by have := h.1; omega)) h.2.2⟩
theorem rXx_w {f : Nat} {z : Int} (h : rXx S P p A σ) : rXx (nk_wi S 121 f z) P p A σ := ⟨h.1, h.2.1, ldR_c h.1 (fun a x y => wi_n (by have := h.1; omega)) h.2.2⟩
/-- the program as the reference sees it -/
theorem rx_at (hwf : pWf tx p) (hk : pKX p Q) (h : rXx S P p A σ) : rUs S P p.2.1 ∧ (∀ (i : Nat) (x : jC), p.2.2.2.2.1.1[i]? = some x → S.1 (P + 15) i = (x.1 : Int) ∧ S.1 (P + 16) i = rA x ∧ S.1 (P + 17) i = rB2 x ∧ S.1 (P + 18) i = (x.2.2.2.1 : Int)) ∧ (∀ s, sVd p.2.2.2.2.1 s = true → s < 54 → S.1 (P + 20) s = rvU (sTp p.2.2.2.2.1 s)) ∧ rKl S P p.2.2.2.2.1.2.2.1 ∧ (∀ (b : Nat) (x : jB), p.2.2.2.1[b]? = some x → rB0 S P b x) ∧ rEl S P p.2.2.2.2.2 ∧ rPl S P p.1.length p.2.1 p.2.2.1 p.2.2.2.1 ∧ (S.1 P 1 = (p.2.2.1.length : Int) ∧ ∀ (f : Nat) (x : List Int × Nat × Int), p.2.2.1[f]? = some x → S.1 (P + 3) f = (x.2.1 : Int) ∧ S.1 (P + 4) f = rvT x.2.2) := by
  obtain ⟨hP, -, ⟨T, t1, t2⟩, -⟩ := h
  obtain ⟨r1, r2, r3, r4, r5, r6, r7, r8, r9, r10, r11, r12, r13, r14⟩ := t2
  have e : ∀ a, P ≤ a → a < P + 46 → T.1 a = S.1 a := fun a x y => t1 a (by omega)
  have hs := hwf.1.2.1
  refine ⟨fun j hj => ?_, fun i x hx => ?_, fun s hs' h54 => ?_, ?_, fun b x hx => ?_, ?_, ?_, ?_, fun f x hx => ?_⟩
  · rw [← e (P + 1) (by omega) (by omega)]; exact r2 j (by omega)
  · obtain ⟨q1, q2, q3, q4, -⟩ := r10.2 i x hx
    rw [← e (P + 15) (by omega) (by omega), ← e (P + 16) (by omega) (by omega), ← e (P + 17) (by omega) (by omega), ← e (P + 18) (by omega) (by omega)]
    exact ⟨q1, q2, q3, q4⟩
  · rw [← e (P + 20) (by omega) (by omega)]
    unfold sTp
    by_cases c : s < p.2.2.2.2.1.2.1.length
    · rw [if_pos c]
      have hg := List.getElem?_eq_getElem c
      rw [r11.2 s _ hg, List.getD_eq_getElem?_getD, hg, Option.getD_some]
      refine rvU_T (Or.inr ?_)
      have h3 := ((p_ctx hwf hk).2.2.2.1 s hs').2
      unfold sTp at h3
      rw [if_pos c, List.getD_eq_getElem?_getD, hg, Option.getD_some] at h3
      exact h3
    · rw [if_neg c]
      unfold sVd at hs'
      rw [decide_eq_false c, Bool.false_or, Bool.and_eq_true] at hs'
      have c48 := of_decide_eq_true hs'.1
      rw [r12 s c48 h54]
      unfold rvU
      rw [if_neg (by omega), if_neg (by omega), if_neg (by omega), if_neg (by omega), if_pos (by omega)]
      omega
  · unfold rKl at r13 ⊢
    rw [← e P (by omega) (by omega), ← e (P + 21) (by omega) (by omega), ← e (P + 22) (by omega) (by omega), ← e (P + 23) (by omega) (by omega), ← e (P + 24) (by omega) (by omega), ← e (P + 25) (by omega) (by omega)]
    exact r13
  · have := r7 b x hx
    unfold rB0 at this ⊢
    rw [← e (P + 6) (by omega) (by omega), ← e (P + 7) (by omega) (by omega), ← e (P + 8) (by omega) (by omega), ← e (P + 9) (by omega) (by omega), ← e (P + 10) (by omega) (by omega), ← e (P + 11) (by omega) (by omega)]
    exact this
  · unfold rEl at r8 ⊢
    rw [← e (P + 12) (by omega) (by omega), ← e (P + 13) (by omega) (by omega)]
    exact r8
  · unfold rPl at r9 ⊢
    rw [← e (P + 2) (by omega) (by omega), ← e (P + 5) (by omega) (by omega), ← e (P + 14) (by omega) (by omega)]
    exact r9
  · rw [← e P (by omega) (by omega)]; exact r3
  · rw [← e (P + 3) (by omega) (by omega), ← e (P + 4) (by omega) (by omega)]
    exact r4 f x hx
/-- which object a reference means -/
theorem r_ob {o : Nat} (h : o < 100000) (T : nk_S) : ja_X13_objectOf (rV (2, ((o + 1 : Nat) : Int))) T = some ((o : Int), T) := by
  have e : rV (2, ((o + 1 : Nat) : Int)) = 1099511627776 + ((o + 1 : Nat) : Int) := rfl
  unfold ja_X13_objectOf
  rw [e, nk_W_id (z := 1099511627776 + ((o + 1 : Nat) : Int) - 1099511627776) (by omega) (by omega), nk_W_id (by omega) (by omega), nk_w_id (by omega) (by omega)]
  congr 2
  omega
theorem rV_1 {n : Int} : rV (1, n) = n := rfl
theorem rV_i (h : v.1 = 1) : rV v = v.2 := by unfold rV; rw [if_pos h]
theorem rV_r (h : v.1 = 2) : rV v = 1099511627776 + v.2 := by unfold rV; rw [if_neg (by omega), if_pos h]
theorem rV_n (h : v.1 = 2) : rV v = 1099511627776 ↔ v.2 = 0 := by rw [rV_r h]; omega
theorem rV_w (hv : vWf m v) (h : v.1 = 1) : nk_w (rV v) = v.2 := by
  have := wf_1 hv h
  unfold iR at this
  rw [rV_i h, nk_w_id (by omega) (by omega)]
theorem rV_0 (h : v.1 = 0) : rV v = 1125899906842624 := by unfold rV; rw [if_neg (by omega), if_neg (by omega)]
/-- is it a number -/
theorem r_isI (hv : vWf m v) (T : nk_S) : ja_X13_isInt (rV v) T = some (bi (decide (v.1 = 1)), T) := by
  unfold ja_X13_isInt
  rcases hv with q | q | q
  · rw [rV_0 q.1, if_pos (by omega), decide_eq_false (by omega)]; rfl
  · obtain ⟨q1, q2⟩ := q
    unfold iR at q2
    rw [rV_i q1, if_neg (by omega), if_neg (by omega), decide_eq_true q1]; rfl
  · rw [rV_r q.1, if_pos (by omega), decide_eq_false (by omega)]; rfl
theorem r_isO (hv : vWf m v) (hn : m.n ≤ 2000) (T : nk_S) : ja_X13_isObject (rV v) T = some (bi (decide (v.1 = 2 ∧ v.2 ≠ 0)), T) := by
  unfold ja_X13_isObject
  rcases hv with q | q | q
  · rw [rV_0 q.1, if_neg (by omega), if_pos rfl, decide_eq_false (by omega)]; rfl
  · obtain ⟨q1, q2⟩ := q
    unfold iR at q2
    rw [rV_i q1, if_pos (by omega), decide_eq_false (by omega)]; rfl
  · rw [rV_r q.1]
    by_cases c : v.2 = 0
    · rw [if_pos (by omega), decide_eq_false (by omega)]; rfl
    · rw [if_neg (by omega), if_neg (by omega), decide_eq_true ⟨q.1, c⟩]; rfl
/-- two values alike -/
theorem rV_inj {u : jV} (hv : vWf m v) (hu : vWf m u) (hn : m.n ≤ 2000) : rV v = rV u ↔ v = u := by
  constructor
  · intro q
    unfold rV at q
    rcases hv with a | ⟨a1, a2⟩ | a <;> rcases hu with b | ⟨b1, b2⟩ | b
    · exact Prod.ext (by omega) (by omega)
    · unfold iR at b2; rw [if_neg (by omega), if_neg (by omega), if_pos b1] at q; omega
    · rw [if_neg (by omega), if_neg (by omega), if_neg (by omega), if_pos b.1] at q; omega
    · unfold iR at a2; rw [if_pos a1, if_neg (by omega), if_neg (by omega)] at q; omega
    · rw [if_pos a1, if_pos b1] at q; exact Prod.ext (by omega) q
    · unfold iR at a2; rw [if_pos a1, if_neg (by omega), if_pos b.1] at q; omega
    · rw [if_neg (by omega), if_pos a.1, if_neg (by omega), if_neg (by omega)] at q; omega
    · unfold iR at b2; rw [if_neg (by omega), if_pos a.1, if_pos b1] at q; omega
    · rw [if_neg (by omega), if_pos a.1, if_neg (by omega), if_pos b.1] at q; exact Prod.ext (by omega) (by omega)
  · intro q; rw [q]
/-- a new object, if there is room -/
theorem r_obj (hT : hTy p m) (h : rHp p S m.2.2.2.2.1) {s sz : Nat} {i : Int} {ty : Int} (hty : ty = rvU (sTp p.2.2.2.2.1 s)) : (mMk p m s sz = none → ja_X13_object 121 ty (s : Int) ((min sz 12001 : Nat) : Int) i S = some (0, nk_wi (nk_wi S 121 61 3) 121 59 i)) ∧ ∀ m1, mMk p m s sz = some m1 → ∃ S', ja_X13_object 121 ty (s : Int) ((min sz 12001 : Nat) : Int) i S = some (rV (2, ((m.n + 1 : Nat) : Int)), S') ∧ rxF S S' ∧ (∀ a, (239 ≤ a ∧ a ≤ 242) ∨ a = 247 ∨ a = 249 → S'.1 a = S.1 a) ∧ (∀ f, f = 52 ∨ f = 56 ∨ f = 57 → S'.1 121 f = S.1 121 f) ∧ rHo p S' m1.2.2.2.2.1 ∧ sz ≤ 12000 := by
  obtain ⟨h1, h2, h3, h4⟩ := h
  have h1 : S.1 121 53 = (m.n : Int) := h1
  have h2 : S.1 121 54 = (m.ba m.n : Int) := h2
  have hn := hT.2.1
  have hb := hT.2.2.1
  have hend : ja_X13_object_b22 121 i S = some (0, nk_wi (nk_wi S 121 61 3) 121 59 i) := by
    unfold ja_X13_object_b22 ja_X13_ended
    rw [lt_eq, lt_eq, bd_some]
  have ew : ∀ _ : Unit, nk_w ((m.ba m.n : Int) + ((min sz 12001 : Nat) : Int)) = (m.ba m.n : Int) + ((min sz 12001 : Nat) : Int) := fun _ => nk_w_id (by omega) (by omega)
  constructor
  · intro hk
    unfold mMk at hk
    by_cases c : 2000 ≤ m.n ∨ 12000 < m.ba m.n + sz
    · unfold ja_X13_object
      rw [h1, h2, ew ()]
      by_cases c1 : (m.n : Int) = 2000
      · rw [if_pos c1, hend]
      · rw [if_neg c1, if_neg (by omega), hend]
    · rw [if_neg c] at hk; cases hk
  · intro m1 hk
    unfold mMk at hk
    by_cases c : 2000 ≤ m.n ∨ 12000 < m.ba m.n + sz
    · rw [if_pos c] at hk; cases hk
    rw [if_neg c] at hk
    have hk := Option.some.inj hk
    have emin : min sz 12001 = sz := by omega
    rw [emin] at ew ⊢
    obtain ⟨T, hTT⟩ : ∃ T, T = nk_wi (nk_wi (nk_wi (nk_wi (nk_wi (nk_wi S 243 m.n ty) 244 m.n (s : Int)) 245 m.n (m.ba m.n : Int)) 246 m.n (sz : Int)) 121 54 ((m.ba m.n + sz : Nat) : Int)) 121 53 ((m.n + 1 : Nat) : Int) := ⟨_, rfl⟩
    have tn : ∀ a, a ≠ 121 → a ≠ 243 → a ≠ 244 → a ≠ 245 → a ≠ 246 → T.1 a = S.1 a := fun a a1 a2 a3 a4 a5 => by rw [hTT, wi_n a1, wi_n a1, wi_n a5, wi_n a4, wi_n a3, wi_n a2]
    have tf : ∀ f, T.1 121 f = if f = 53 then ((m.n + 1 : Nat) : Int) else if f = 54 then ((m.ba m.n + sz : Nat) : Int) else S.1 121 f := fun f => by rw [hTT, wi_at, wi_at, wi_n (by decide), wi_n (by decide), wi_n (by decide), wi_n (by decide)]
    have t3 : ∀ o, T.1 243 o = if o = m.n then ty else S.1 243 o := fun o => by rw [hTT, wi_n (by decide), wi_n (by decide), wi_n (by decide), wi_n (by decide), wi_n (by decide), wi_at]
    have t4 : ∀ o, T.1 244 o = if o = m.n then (s : Int) else S.1 244 o := fun o => by rw [hTT, wi_n (by decide), wi_n (by decide), wi_n (by decide), wi_n (by decide), wi_at, wi_n (by decide)]
    have t5 : ∀ o, T.1 245 o = if o = m.n then (m.ba m.n : Int) else S.1 245 o := fun o => by rw [hTT, wi_n (by decide), wi_n (by decide), wi_n (by decide), wi_at, wi_n (by decide), wi_n (by decide)]
    have t6 : ∀ o, T.1 246 o = if o = m.n then (sz : Int) else S.1 246 o := fun o => by rw [hTT, wi_n (by decide), wi_n (by decide), wi_at, wi_n (by decide), wi_n (by decide), wi_n (by decide)]
    refine ⟨T, ?_, ⟨by rw [hTT]; rfl, fun a ha => tn a (by omega) (by omega) (by omega) (by omega) (by omega), fun f hf => by rw [tf, if_neg (by omega), if_neg (by omega)]⟩, fun a ha => tn a (by omega) (by omega) (by omega) (by omega) (by omega), fun f hf => by rw [tf, if_neg (by omega), if_neg (by omega)], ?_, by omega⟩
    · unfold ja_X13_object
      obtain ⟨-, -, -, -, j45, j46, j47, j48, -⟩ := jc_rm
      have e1 : (nk_wi S 243 m.n ty).1 121 53 = (m.n : Int) := by rw [wi_n (by decide)]; exact h1
      have e2 : (nk_wi (nk_wi S 243 m.n ty) 244 m.n (s : Int)).1 121 53 = (m.n : Int) := by rw [wi_n (by decide)]; exact e1
      have e2' : (nk_wi (nk_wi S 243 m.n ty) 244 m.n (s : Int)).1 121 54 = (m.ba m.n : Int) := by rw [wi_n (by decide), wi_n (by decide)]; exact h2
      have e3 : (nk_wi (nk_wi (nk_wi S 243 m.n ty) 244 m.n (s : Int)) 245 m.n (m.ba m.n : Int)).1 121 53 = (m.n : Int) := by rw [wi_n (by decide)]; exact e2
      have e4 : (nk_wi (nk_wi (nk_wi (nk_wi S 243 m.n ty) 244 m.n (s : Int)) 245 m.n (m.ba m.n : Int)) 246 m.n (sz : Int)).1 121 54 = (m.ba m.n : Int) := by rw [wi_n (by decide), wi_n (by decide)]; exact e2'
      have e4' : (nk_wi (nk_wi (nk_wi (nk_wi S 243 m.n ty) 244 m.n (s : Int)) 245 m.n (m.ba m.n : Int)) 246 m.n (sz : Int)).1 121 53 = (m.n : Int) := by rw [wi_n (by decide)]; exact e3
      have ew2 : ∀ _ : Unit, nk_w ((m.ba m.n : Int) + (sz : Int)) = ((m.ba m.n + sz : Nat) : Int) := fun _ => by rw [ew ()]; omega
      rw [h1, if_neg (by omega), h2, ew (), if_pos (by omega), if_pos (in_i (N := 2000) (by omega)), j45, Int.toNat_natCast, lt_eq, e1, if_pos (in_i (N := 2000) (by omega)), j46, Int.toNat_natCast, lt_eq, e2, e2', if_pos (in_i (N := 2000) (by omega)), j47, Int.toNat_natCast, lt_eq, e3, if_pos (in_i (N := 2000) (by omega)), j48, Int.toNat_natCast, lt_eq, e4, ew2 (), lt_eq, wi_at, if_neg (by decide), e4', w_nat1 (by omega), lt_eq, ← hTT, tf, if_pos rfl, nk_W_id (by omega) (by omega), rV_r (v := (2, ((m.n + 1 : Nat) : Int))) rfl]
    · rw [← hk]
      refine ⟨by rw [tf, if_pos rfl], ?_, fun o ho => ?_⟩
      · rw [tf, if_neg (by decide), if_pos rfl]
        show _ = ((gU m.ba (m.n + 1) (m.ba m.n + sz) (m.n + 1) : Nat) : Int)
        rw [gU_at]
      · have ho : o < m.n + 1 := ho
        show T.1 243 o = rvU (sTp p.2.2.2.2.1 (gU m.si m.n s o)) ∧ T.1 244 o = ((gU m.si m.n s o : Nat) : Int) ∧ T.1 245 o = ((gU m.ba (m.n + 1) (m.ba m.n + sz) o : Nat) : Int) ∧ T.1 246 o = ((gU m.ba (m.n + 1) (m.ba m.n + sz) (o + 1) - gU m.ba (m.n + 1) (m.ba m.n + sz) o : Nat) : Int)
        rw [t3, t4, t5, t6, gU_ne (f := m.ba) (i := o) (by omega)]
        by_cases e : o = m.n
        · rw [e, if_pos rfl, if_pos rfl, if_pos rfl, if_pos rfl, gU_at, gU_at, hty]
          exact ⟨rfl, rfl, rfl, by omega⟩
        · rw [if_neg e, if_neg e, if_neg e, if_neg e, gU_ne e, gU_ne (by omega)]
          exact h3 o (by show o < m.n; omega)
end ROB
