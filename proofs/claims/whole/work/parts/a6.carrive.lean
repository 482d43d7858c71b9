/-! Types: the class's arrive. -/
def exR (f : Nat → Bool) : Nat → Nat → Bool
  | 0, _ => false
  | d + 1, s => f s || exR f d (s + 1)
theorem exR_iff {f : Nat → Bool} : ∀ d s, exR f d s = true ↔ ∃ k, s ≤ k ∧ k < s + d ∧ f k = true := by
  intro d
  induction d with
  | zero => intro s; exact ⟨fun h => (by cases h), fun ⟨k, h1, h2, _⟩ => by omega⟩
  | succ d ih =>
    intro s
    rw [exR, Bool.or_eq_true, ih]
    constructor
    · rintro (h | ⟨k, h1, h2, h3⟩)
      · exact ⟨s, by omega, by omega, h⟩
      · exact ⟨k, by omega, by omega, h3⟩
    · rintro ⟨k, h1, h2, h3⟩
      by_cases c : k = s
      · left; rw [← c]; exact h3
      · right; exact ⟨k, by omega, by omega, h3⟩
theorem wi12 {g : Nat} (h : g ≤ 100) : nk_w (12 + (g : Int)) = ((12 + g : Nat) : Int) := by
  rw [show (12 : Int) + (g : Int) = ((12 + g : Nat) : Int) by omega]
  exact nk_w_id (by omega) (by omega)
theorem wi20 {j : Nat} (h : j < 1024) : nk_w ((j : Int) * 20) = ((j * 20 : Nat) : Int) := by
  rw [show (j : Int) * 20 = ((j * 20 : Nat) : Int) by omega]
  exact nk_w_id (by omega) (by omega)
theorem wiadd {a c : Nat} (h : a + c < 2147483648) : nk_w ((a : Int) + (c : Int)) = ((a + c : Nat) : Int) := by
  rw [show (a : Int) + (c : Int) = ((a + c : Nat) : Int) by omega]
  exact nk_w_id (by omega) (by omega)
theorem wisub {a c : Nat} (h : c ≤ a) (h2 : a < 2147483648) : nk_w ((a : Int) - (c : Int)) = ((a - c : Nat) : Int) := by
  rw [show (a : Int) - (c : Int) = ((a - c : Nat) : Int) by omega]
  exact nk_w_id (by omega) (by omega)
theorem bi_s (o : Option (Nat → Int)) : (o = none ∧ bi o.isSome = 0) ∨ (∃ u, o = some u ∧ ¬ bi o.isSome = 0) := by
  cases o with
  | none => exact Or.inl ⟨rfl, rfl⟩
  | some u => exact Or.inr ⟨u, rfl, fun h => by cases h⟩
/-- the value that a slot gets -/
def nvT (us : List Int) (o : Option (Nat → Int)) (w : Nat → Int) (k : Nat) : Int := match o with
  | none => w k
  | some u => tJn us (u k) (w k)
/-- does a slot rise -/
def nwT (us : List Int) (lc g : Nat) (o : Option (Nat → Int)) (w : Nat → Int) (k : Nat) : Bool := match o with
  | none => false
  | some u => decide (rel lc g k) && decide (tJn us (u k) (w k) ≠ u k)
def cTm (lc : Nat) (M : Nat → Nat) (e : Nat × Nat × Nat × Nat) (S : nk_S) (X : jX) (W : Nat → Bool) (ch : Bool) : Prop := (∀ i, e.1 ≤ i → i < e.2.1 → S.1 89 i = bi (X i).isSome ∧ S.1 90 i = bi (W i)) ∧ (∀ i u, X i = some u → ∀ k, rel lc (hgt (M i)) k → S.1 88 (i * 20 + k) = u k) ∧ S.1 86 7 = bi ch
def tFr (S S' : nk_S) : Prop := S'.2 = S.2 ∧ (∀ a, a ≠ 86 → a ≠ 88 → a ≠ 89 → a ≠ 90 → S'.1 a = S.1 a) ∧ ∀ i, i ≠ 7 → S'.1 86 i = S.1 86 i
theorem tFr_rfl {S : nk_S} : tFr S S := ⟨rfl, fun _ _ _ _ _ => rfl, fun _ _ => rfl⟩
theorem tFr_trans {S1 S2 S3 : nk_S} (h : tFr S1 S2) (k : tFr S2 S3) : tFr S1 S3 := ⟨k.1.trans h.1, fun a x y z w => (k.2.1 a x y z w).trans (h.2.1 a x y z w), fun i x => (k.2.2 i x).trans (h.2.2 i x)⟩
section CAR
variable {us : List Int} {Q : Nat}
theorem c_arrL (hQ : Q = 13 ∨ Q = 49) (hu : uOk us) (h32 : us.length ≤ 32) {j lc g : Nat} (hj : j < 1024) (hlc : lc ≤ 12) (hg : g ≤ 8) {o : Option (Nat → Int)} {w : Nat → Int} (ho : ∀ u, o = some u → ∀ k, tV us (u k)) (hwv : ∀ k, rel lc g k → tV us (w k)) : ∀ (d s m : Nat) (nf : Bool) (S : nk_S), S.2 86 1 = Q + 1 → cU S Q us → S.1 89 j = bi o.isSome → (∀ k, rel lc g k → S.1 91 k = w k) → (∀ u, o = some u → ∀ k, s ≤ k → rel lc g k → S.1 88 (j * 20 + k) = u k) → (o = none → nf = true) → s + d = 12 + g → d < m → ∃ T, ja_X9_arrive_L35 m 86 (j : Int) (lc : Int) (g : Int) (bi nf) (s : Int) S = some (0, if (nf || exR (nwT us lc g o w) d s) = true then nk_wi (nk_wi (nk_wi T 89 j 1) 90 j 1) 86 7 1 else T) ∧ T.2 = S.2 ∧ (∀ a, a ≠ 88 → T.1 a = S.1 a) ∧ ∀ p, T.1 88 p = if j * 20 + s ≤ p ∧ p < j * 20 + (12 + g) ∧ rel lc g (p - j * 20) then nvT us o w (p - j * 20) else S.1 88 p := by
  intro d
  induction d with
  | zero =>
    intro s m nf S h1 hK h89 h91 h88 hn h2 h3
    obtain ⟨m, rfl⟩ : ∃ q, m = q + 1 := ⟨m - 1, by omega⟩
    refine ⟨S, ?_, rfl, fun _ _ => rfl, fun p => by rw [if_neg (by omega)]⟩
    show ja_X9_arrive_b35 (ja_X9_arrive_L35 m) 86 (j : Int) (lc : Int) (g : Int) (bi nf) (s : Int) S = _
    unfold ja_X9_arrive_b35
    rw [wi12 (by omega), exR, Bool.or_false, if_pos (by omega)]
    cases nf with
    | false => rw [if_pos (show bi false = 0 from rfl), if_neg (by decide)]
    | true => rw [if_neg (show ¬ bi true = 0 by decide), if_pos (in_i (N := 1024) (by omega)), if_pos rfl, lt_eq, lt_eq, lt_eq, jc_86_4, jc_86_5, Int.toNat_natCast]
  | succ d ih =>
    intro s m nf S h1 hK h89 h91 h88 hn h2 h3
    obtain ⟨m, rfl⟩ : ∃ q, m = q + 1 := ⟨m - 1, by omega⟩
    have hstep : ja_X9_arrive_L35 (m + 1) 86 (j : Int) (lc : Int) (g : Int) (bi nf) (s : Int) S = if (s : Int) < (lc : Int) then ja_X9_arrive_b60 (ja_X9_arrive_L35 m) 86 (j : Int) (lc : Int) (g : Int) (bi nf) (s : Int) S else if 12 ≤ (s : Int) then ja_X9_arrive_b60 (ja_X9_arrive_L35 m) 86 (j : Int) (lc : Int) (g : Int) (bi nf) (s : Int) S else ja_X9_arrive_L35 m 86 (j : Int) (lc : Int) (g : Int) (bi nf) ((s + 1 : Nat) : Int) S := by
      show ja_X9_arrive_b35 (ja_X9_arrive_L35 m) 86 (j : Int) (lc : Int) (g : Int) (bi nf) (s : Int) S = _
      unfold ja_X9_arrive_b35
      rw [wi12 (by omega), if_neg (by omega), w_nat1 (by omega)]
      rfl
    by_cases hrel : rel lc g s
    · have h60 : ja_X9_arrive_L35 (m + 1) 86 (j : Int) (lc : Int) (g : Int) (bi nf) (s : Int) S = ja_X9_arrive_b60 (ja_X9_arrive_L35 m) 86 (j : Int) (lc : Int) (g : Int) (bi nf) (s : Int) S := by
        rw [hstep]
        by_cases c : s < lc
        · rw [if_pos (by omega)]
        · rw [if_neg (by omega), if_pos (by unfold rel at hrel; omega)]
      have hs20 : s < 20 := by unfold rel at hrel; omega
      have i1024 : (0 : Int) ≤ (j : Int) ∧ (j : Int) < 1024 := in_i (N := 1024) (by omega)
      have i20 : (0 : Int) ≤ (s : Int) ∧ (s : Int) < 20 := in_i (N := 20) (by omega)
      have i20480 : (0 : Int) ≤ ((j * 20 + s : Nat) : Int) ∧ ((j * 20 + s : Nat) : Int) < 20480 := in_i (N := 20480) (by omega)
      have hval : ja_X9_arrive_b60 (ja_X9_arrive_L35 m) 86 (j : Int) (lc : Int) (g : Int) (bi nf) (s : Int) S = ja_X9_arrive_b109 (ja_X9_arrive_L35 m) 86 (j : Int) (lc : Int) (g : Int) (bi nf) (s : Int) ((j * 20 + s : Nat) : Int) (nvT us o w s) S := by
        unfold ja_X9_arrive_b60
        rw [wi20 hj, wiadd (by omega), lt_eq, if_pos i1024, jc_86_4, jc_86_6, jc_86_3, Int.toNat_natCast, Int.toNat_natCast, Int.toNat_natCast, h89, h91 s hrel]
        cases o with
        | none =>
          rw [if_pos (show bi (none : Option (Nat → Int)).isSome = 0 from rfl), if_pos i20]
          rfl
        | some u =>
          rw [if_neg (show ¬ bi (some u).isSome = 0 from fun h => by cases h), if_pos i20480, if_pos i20, h1, h88 u rfl s (Nat.le_refl _) hrel, c_join hQ hK hu h32 (ho u rfl s) (hwv s hrel), bd_some]
          rfl
      obtain ⟨nf', hnf'⟩ : ∃ nf', nf' = (nf || nwT us lc g o w s) := ⟨_, rfl⟩
      have hwr : ja_X9_arrive_b109 (ja_X9_arrive_L35 m) 86 (j : Int) (lc : Int) (g : Int) (bi nf) (s : Int) ((j * 20 + s : Nat) : Int) (nvT us o w s) S = ja_X9_arrive_L35 m 86 (j : Int) (lc : Int) (g : Int) (bi nf') ((s + 1 : Nat) : Int) (nk_wi S 88 (j * 20 + s) (nvT us o w s)) := by
        unfold ja_X9_arrive_b109 ja_X9_arrive_b128 ja_X9_arrive_b133
        rw [jc_86_3, Int.toNat_natCast, if_pos i20480, if_pos i20480, if_pos i20480, lt_eq, lt_eq, w_nat1 (by omega), hnf']
        cases nf with
        | true => rw [if_neg (show ¬ bi true = 0 by decide), Bool.true_or]; rfl
        | false =>
          rw [if_pos (show bi false = 0 from rfl), Bool.false_or]
          cases o with
          | none => exact absurd (hn rfl) (by decide)
          | some u =>
            rw [h88 u rfl s (Nat.le_refl _) hrel]
            unfold nvT nwT
            dsimp only
            rw [decide_eq_true hrel, Bool.true_and]
            by_cases c : tJn us (u s) (w s) = u s
            · rw [if_pos c, decide_eq_false (fun h => h c)]; rfl
            · rw [if_neg c, decide_eq_true c]; rfl
      obtain ⟨A, hA⟩ : ∃ A, A = nk_wi S 88 (j * 20 + s) (nvT us o w s) := ⟨_, rfl⟩
      rw [← hA] at hwr
      have an : ∀ a, a ≠ 88 → A.1 a = S.1 a := fun a ha => by rw [hA, wi_n ha]
      have KA : cU A Q us := by
        unfold cU at hK ⊢
        rw [an (Q + 1) (by omega), an (Q + 2) (by omega), an (Q + 3) (by omega)]
        exact hK
      obtain ⟨T, t1, t2, t3, t4⟩ := ih (s + 1) m nf' A (by rw [hA]; exact h1) KA (by rw [an 89 (by decide)]; exact h89) (fun k hk => by rw [an 91 (by decide)]; exact h91 k hk) (fun u hu' k hk hr => by rw [hA, wi_at, if_neg (by omega)]; exact h88 u hu' k (by omega) hr) (fun h => by rw [hnf', hn h, Bool.true_or]) (by omega) (by omega)
      refine ⟨T, ?_, by rw [t2, hA]; rfl, fun a ha => by rw [t3 a ha, an a ha], fun p => ?_⟩
      · rw [h60, hval, hwr, t1, hnf', exR, Bool.or_assoc]
      · rw [t4, hA, wi_at]
        by_cases c : j * 20 + (s + 1) ≤ p ∧ p < j * 20 + (12 + g) ∧ rel lc g (p - j * 20)
        · rw [if_pos c, if_pos ⟨by omega, c.2⟩]
        · rw [if_neg c]
          by_cases c2 : p = j * 20 + s
          · rw [if_pos c2, if_pos ⟨by omega, by omega, by rw [c2, show j * 20 + s - j * 20 = s by omega]; exact hrel⟩, c2, show j * 20 + s - j * 20 = s by omega]
          · rw [if_neg c2, if_neg (fun h => c ⟨by omega, h.2⟩)]
    · rw [if_neg (show ¬ (s : Int) < (lc : Int) by unfold rel at hrel; omega), if_neg (show ¬ 12 ≤ (s : Int) by unfold rel at hrel; omega)] at hstep
      obtain ⟨T, t1, t2, t3, t4⟩ := ih (s + 1) m nf S h1 hK h89 h91 (fun u hu' k hk hr => h88 u hu' k (by omega) hr) hn (by omega) (by omega)
      refine ⟨T, ?_, t2, t3, fun p => ?_⟩
      · have e : nwT us lc g o w s = false := by
          unfold nwT
          cases o with
          | none => rfl
          | some u => dsimp only; rw [decide_eq_false hrel, Bool.false_and]
        rw [hstep, t1, exR, e, Bool.false_or]
      · rw [t4]
        by_cases c : j * 20 + (s + 1) ≤ p ∧ p < j * 20 + (12 + g) ∧ rel lc g (p - j * 20)
        · rw [if_pos c, if_pos ⟨by omega, c.2⟩]
        · rw [if_neg c, if_neg (fun h => c ⟨?_, h.2⟩)]
          by_cases c2 : p = j * 20 + s
          · exact absurd (by have := h.2.2; rw [c2, show j * 20 + s - j * 20 = s by omega] at this; exact this) hrel
          · omega
/-- the class takes types over an arrow -/
theorem c_arr (hQ : Q = 13 ∨ Q = 49) (hu : uOk us) (h32 : us.length ≤ 32) {n j lc g : Nat} (hlc : lc ≤ 12) (hg : g ≤ 8) {M : Nat → Nat} {e : Nat × Nat × Nat × Nat} {X : jX} {W : Nat → Bool} {ch : Bool} {w : Nat → Int} (hX : tOK us lc M e X) (hMj : hgt (M j) = g) (hj1 : e.1 ≤ j) (hj2 : j < e.2.1) (he : e.2.1 ≤ n) (hn2 : n ≤ 1024) (hwv : ∀ k, rel lc g k → tV us (w k)) {S : nk_S} (h0 : S.2 86 0 = Q) (h1 : S.2 86 1 = Q + 1) (hn : S.1 Q 3 = (n : Int)) (hK : cU S Q us) (h91 : ∀ k, rel lc g k → S.1 91 k = w k) (hm : cTm lc M e S X W ch) : ∃ S', ja_X9_arrive 86 (j : Int) (lc : Int) (g : Int) S = some (0, S') ∧ tFr S S' ∧ cTm lc M e S' (tArr us X j (rst lc g w)) (fun i => if i = j ∧ tNw us X j (rst lc g w) = true then true else W i) (ch || tNw us X j (rst lc g w)) := by
  obtain ⟨bm, hbm⟩ := big_ge 100 (by decide)
  obtain ⟨m1, m2, m3⟩ := hm
  have i1024 : (0 : Int) ≤ (j : Int) ∧ (j : Int) < 1024 := in_i (N := 1024) (by omega)
  obtain ⟨T, t1, t2, t3, t4⟩ := c_arrL hQ hu h32 (show j < 1024 by omega) hlc hg (o := X j) (w := w) (fun u hu' k => ((hX j u hu').2.2.2 k).1) hwv (12 + g) 0 nk_big (X j).isNone S h1 hK (m1 j hj1 hj2).1 h91 (fun u hu' k _ hr => m2 j u hu' k (by rw [hMj]; exact hr)) (fun h => by rw [h]; rfl) (by omega) (by omega)
  have hnw : ((X j).isNone || exR (nwT us lc g (X j) w) (12 + g) 0) = tNw us X j (rst lc g w) := by
    unfold tNw
    cases hq : X j with
    | none => rfl
    | some u =>
      dsimp only
      show (false || exR (nwT us lc g (some u) w) (12 + g) 0) = _
      rw [Bool.false_or]
      rw [Bool.eq_iff_iff, exR_iff, exB_iff]
      obtain ⟨-, -, -, r4⟩ := hX j u hq
      rw [hMj] at r4
      constructor
      · rintro ⟨k, k1, k2, k3⟩
        unfold nwT at k3
        dsimp only at k3
        rw [Bool.and_eq_true] at k3
        refine ⟨k, by omega, ?_⟩
        unfold rst
        rw [if_pos (of_decide_eq_true k3.1)]
        exact k3.2
      · rintro ⟨k, k1, k2⟩
        have k3 := of_decide_eq_true k2
        unfold rst at k3
        by_cases c : rel lc g k
        · rw [if_pos c] at k3
          refine ⟨k, by omega, by unfold rel at c; omega, ?_⟩
          unfold nwT
          dsimp only
          rw [decide_eq_true c, Bool.true_and]
          exact decide_eq_true k3
        · rw [if_neg c, (r4 k).2 c] at k3
          exact absurd rfl k3
  rw [hnw] at t1
  have hst : ja_X9_arrive 86 (j : Int) (lc : Int) (g : Int) S = ja_X9_arrive_L35 nk_big 86 (j : Int) (lc : Int) (g : Int) (bi (X j).isNone) ((0 : Nat) : Int) S := by
    unfold ja_X9_arrive
    rw [if_neg (show ¬ (j : Int) < 0 by omega), h0, hn, if_pos (show (j : Int) < (n : Int) by omega), if_pos i1024, jc_86_4, Int.toNat_natCast, (m1 j hj1 hj2).1]
    cases X j with
    | none => rw [if_pos (show bi (none : Option (Nat → Int)).isSome = 0 from rfl)]; rfl
    | some u => rw [if_neg (show ¬ bi (some u).isSome = 0 from fun h => by cases h)]; rfl
  have row : ∀ i u, tArr us X j (rst lc g w) i = some u → ∀ k, rel lc (hgt (M i)) k → T.1 88 (i * 20 + k) = u k := by
    intro i u hiu k hk
    by_cases c : i = j
    · subst c
      rw [hMj] at hk
      rw [t4, if_pos ⟨by omega, by unfold rel at hk; omega, by rw [show i * 20 + k - i * 20 = k by omega]; exact hk⟩, show i * 20 + k - i * 20 = k by omega]
      rw [tArr_at] at hiu
      unfold nvT
      cases hq : X i with
      | none =>
        rw [hq] at hiu
        cases hiu
        show w k = if rel lc g k then w k else 0
        rw [if_pos hk]
      | some q =>
        rw [hq] at hiu
        cases hiu
        show tJn us (q k) (w k) = tJn us (q k) (if rel lc g k then w k else 0)
        rw [if_pos hk]
    · rw [tArr_ne c] at hiu
      have hh : hgt (M i) ≤ 8 := by
        unfold hgt
        repeat' split
        all_goals omega
      have k20 : k < 20 := by unfold rel at hk; omega
      rw [t4, if_neg (by omega)]
      exact m2 i u hiu k hk
  rw [hst]
  cases hN : tNw us X j (rst lc g w) with
  | false =>
    rw [hN, if_neg (by decide)] at t1
    refine ⟨T, t1, ⟨t2, fun a _ x _ _ => t3 a x, fun i _ => by rw [t3 86 (by decide)]⟩, fun i h1 h2 => ?_, row, by rw [t3 86 (by decide), m3, Bool.or_false]⟩
    rw [t3 89 (by decide), t3 90 (by decide), (m1 i h1 h2).1, (m1 i h1 h2).2]
    dsimp only
    rw [if_neg (fun h => by cases h.2)]
    refine ⟨?_, rfl⟩
    by_cases c : i = j
    · subst c
      rw [tArr_at]
      unfold tNw at hN
      cases hq : X i with
      | none => rw [hq] at hN; cases hN
      | some q => rfl
    · rw [tArr_ne c]
  | true =>
    rw [hN, if_pos rfl] at t1
    refine ⟨_, t1, ⟨t2, fun a x y z v => by rw [wi_n x, wi_n v, wi_n z, t3 a y], fun i hi => by rw [wi_at, if_neg hi, wi_n (by decide), wi_n (by decide), t3 86 (by decide)]⟩, fun i h1 h2 => ?_, fun i u hiu k hk => by rw [wi_n (by decide), wi_n (by decide), wi_n (by decide)]; exact row i u hiu k hk, by rw [wi_at, if_pos rfl, Bool.or_true]; rfl⟩
    rw [wi_n (by decide), wi_n (by decide), wi_at, wi_n (by decide), wi_at, wi_n (by decide), t3 89 (by decide), t3 90 (by decide)]
    dsimp only
    by_cases c : i = j
    · subst c
      rw [if_pos rfl, if_pos rfl, if_pos ⟨rfl, rfl⟩, tArr_at]
      exact ⟨rfl, rfl⟩
    · rw [if_neg c, if_neg c, if_neg (fun h => c h.1), tArr_ne c]
      exact m1 i h1 h2
end CAR
