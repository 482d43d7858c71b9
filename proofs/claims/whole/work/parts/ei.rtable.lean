/-! The reference's table of values. -/
/-- a value of the table -/
def rVo (S : nk_S) (P k : Nat) (o : Option jW) : Prop := match o with
  | none => S.1 (P + 39) k = 0 ∧ S.1 (P + 40) k = 0 ∧ S.1 (P + 41) k = 0 ∧ cV (S.1 (P + 42) k) noS
  | some w => S.1 (P + 39) k = (w.1 : Int) ∧ S.1 (P + 40) k = w.2.1.1 ∧ S.1 (P + 41) k = w.2.1.2 ∧ cV (S.1 (P + 42) k) w.2.2.1
/-- where a value stands -/
def rIx (k : Nat) : Nat := if k < 2700 then k else k + 576
/-- all values, what bodies end and throw -/
def rGm (S : nk_S) (P : Nat) (σ : jG) : Prop := (∀ k, k < 2748 → rVo S P (rIx k) (σ.1 k)) ∧ (∀ b, b < 48 → S.1 (P + 43) b = bi (σ.2.1 b)) ∧ ∀ b, b < 48 → cV (S.1 (P + 45) b) (σ.2.2 b)
/-- what bodies are begun with -/
def rRm (S : nk_S) (P : Nat) (bl : List jB) (R : jA) : Prop := ∀ (b : Nat) (y : jB), bl[b]? = some y → S.1 (P + 44) b = bi (R b).isSome ∧ (R b = none → ∀ k, k < 12 → rVo S P (2700 + b * 12 + k) none) ∧ ∀ r, R b = some r → ∀ k, k < y.ps.length → rVo S P (2700 + b * 12 + k) (some (r k))
/-- one value changes -/
def vFr (P k : Nat) (S S' : nk_S) : Prop := S'.2 = S.2 ∧ (∀ a, a < P + 39 ∨ P + 42 < a → a ≠ 121 → S'.1 a = S.1 a) ∧ (∀ f, f ≠ 37 → S'.1 121 f = S.1 121 f) ∧ ∀ a j, j ≠ k → a ≠ 121 → S'.1 a j = S.1 a j
section RTB
variable {F : Int → Prop} {S : nk_S} {P : Nat}
theorem rVo_c {S S' : nk_S} {k : Nat} {o : Option jW} (h : ∀ a, P + 39 ≤ a → a ≤ P + 42 → S'.1 a k = S.1 a k) (q : rVo S P k o) : rVo S' P k o := by
  cases o with
  | none =>
    unfold rVo at q ⊢
    dsimp only at q ⊢
    rw [h _ (by omega) (by omega), h _ (by omega) (by omega), h _ (by omega) (by omega), h _ (by omega) (by omega)]
    exact q
  | some w =>
    unfold rVo at q ⊢
    dsimp only at q ⊢
    rw [h _ (by omega) (by omega), h _ (by omega) (by omega), h _ (by omega) (by omega), h _ (by omega) (by omega)]
    exact q
theorem vFr_rfl {k : Nat} : vFr P k S S := ⟨rfl, fun _ _ _ => rfl, fun _ _ => rfl, fun _ _ _ _ => rfl⟩
/-- the same kind, or nothing -/
def sKd (o : Option jW) (w : jW) : Prop := ∀ v, o = some v → v.1 = w.1
theorem r_jRange (hP : P = 122 ∨ P = 168) {k : Nat} (hk : k < 3324) {o : Option jW} (ho : rVo S P k o) {w : jW} (h1 : w.1 = 1) (hs : w.2.2.1 = noS) (hw : w = (1, w.2.1, noS, none, noS)) (hb : ∀ v, o = some v → v = (1, v.2.1, noS, none, noS)) : ∃ S' c, ja_X13_joinRange 121 P (k : Int) w.2.1.1 w.2.1.2 S = some (0, S') ∧ vFr P k S S' ∧ rVo S' P k (oJ o (some w)) ∧ S'.1 121 37 = (if c = true then 1 else S.1 121 37) ∧ (c = true ↔ oJ o (some w) ≠ o) := by
  obtain ⟨c46, c47, c48, c49, -, -, -⟩ := jc_Pv hP
  have b1 : nk_i2b 1 = 1 := by decide
  have n121 : ∀ j, j ≤ 45 → P + j ≠ 121 := fun j _ => by omega
  -- what is written
  have wr : ∀ l h : Int, ∃ T, T = nk_wi (nk_wi (nk_wi (nk_wi S (P + 40) k l) (P + 41) k h) (P + 39) k 1) 121 37 1 ∧ vFr P k S T ∧ T.1 (P + 39) k = 1 ∧ T.1 (P + 40) k = l ∧ T.1 (P + 41) k = h ∧ T.1 (P + 42) k = S.1 (P + 42) k ∧ T.1 121 37 = 1 := fun l h => by
    refine ⟨_, rfl, ⟨rfl, fun a h1 h2 => ?_, fun f hf => ?_, fun a j h1 h2 => ?_⟩, ?_, ?_, ?_, ?_, ?_⟩
    · rw [wi_n h2, wi_n (by omega), wi_n (by omega), wi_n (by omega)]
    · rw [wi_at, if_neg hf, wi_n (by omega), wi_n (by omega), wi_n (by omega)]
    · rw [wi_n h2, wi_v, if_neg (fun q => h1 q.2), wi_v, if_neg (fun q => h1 q.2), wi_v, if_neg (fun q => h1 q.2)]
    · rw [wi_n (by omega), wi_at, if_pos rfl]
    · rw [wi_n (by omega), wi_n (by omega), wi_n (by omega), wi_at, if_pos rfl]
    · rw [wi_n (by omega), wi_n (by omega), wi_at, if_pos rfl]
    · rw [wi_n (by omega), wi_n (by omega), wi_n (by omega), wi_n (by omega)]
    · rw [wi_at, if_pos rfl]
  have b100 : ∀ (T : nk_S) (h : Int), ja_X13_joinRange_b100 121 P (k : Int) (ja_c P 48) (k : Int) h T = some (0, nk_wi (nk_wi (nk_wi T (P + 41) k h) (P + 39) k 1) 121 37 1) := fun T h => by
    unfold ja_X13_joinRange_b100
    rw [if_pos (in_i (N := 3324) (by omega)), Int.toNat_natCast, lt_eq, if_pos (in_i (N := 3324) (by omega)), c46, c48, b1, lt_eq, lt_eq]
  unfold ja_X13_joinRange
  rw [if_pos (in_i (N := 3324) (by omega)), c46, c47, c48, Int.toNat_natCast]
  cases o with
  | none =>
    obtain ⟨z0, z1, z2, z3⟩ := ho
    obtain ⟨T, hT, t1, t2, t3, t4, t5, t6⟩ := wr w.2.1.1 w.2.1.2
    refine ⟨T, true, ?_, t1, ?_, by rw [t6, if_pos rfl], fun _ q => (by cases q), fun _ => rfl⟩
    · unfold ja_X13_joinRange_b32 ja_X13_joinRange_b47 ja_X13_joinRange_b73
      rw [z0, if_neg (by decide), if_pos (in_i (N := 3324) (by omega)), c46, Int.toNat_natCast, z0, if_neg (by decide), if_neg (by decide), if_pos (in_i (N := 3324) (by omega)), c47, lt_eq, if_neg (by decide), b100, ← hT]
    · show _ ∧ _
      rw [t2, t3, t4, t5, hs]
      exact ⟨by rw [h1]; rfl, rfl, rfl, z3⟩
  | some v =>
    obtain ⟨z0, z1, z2, z3⟩ := ho
    have hv := hb v rfl
    have v1 : v.1 = 1 := by rw [hv]
    have vs : v.2.2.1 = noS := by rw [hv]
    have e : wJn v w = (1, rJn v.2.1 w.2.1, noS, none, noS) := by
      rw [hv, hw]
      unfold wJn
      rw [if_pos ⟨rfl, show (1 : Nat) ≠ 0 by decide⟩]
      dsimp only
      rw [if_pos rfl]
      congr 1
    have eo : oJ (some v) (some w) = some (wJn v w) := rfl
    rw [v1] at z0
    have z0 : S.1 (P + 39) k = 1 := z0
    rw [z0, if_pos rfl, z1, z2, eo, e]
    obtain ⟨T, hT, t1, t2, t3, t4, t5, t6⟩ := wr (min w.2.1.1 v.2.1.1) (max w.2.1.2 v.2.1.2)
    have full : ja_X13_joinRange_b32 121 P (k : Int) w.2.1.1 w.2.1.2 S = some (0, T) := by
      unfold ja_X13_joinRange_b32 ja_X13_joinRange_b47 ja_X13_joinRange_b73
      rw [if_pos (in_i (N := 3324) (by omega)), c46, Int.toNat_natCast, z0, if_pos rfl, if_pos rfl, if_pos (in_i (N := 3324) (by omega)), c47, z1, min_i, bd_some, if_pos (in_i (N := 3324) (by omega)), lt_eq, if_pos rfl, if_pos (in_i (N := 3324) (by omega)), c48, wi_n (b := P + 41) (by omega), z2, max_i, bd_some, ← c48, b100, ← hT]
    have rv : rVo T P k (some (1, rJn v.2.1 w.2.1, noS, none, noS)) := by
      show _ ∧ _
      rw [t2, t3, t4, t5, ← vs]
      refine ⟨rfl, ?_, ?_, z3⟩
      · show min w.2.1.1 v.2.1.1 = min v.2.1.1 w.2.1.1
        omega
      · show max w.2.1.2 v.2.1.2 = max v.2.1.2 w.2.1.2
        omega
    have ne : (w.2.1.1 < v.2.1.1 ∨ v.2.1.2 < w.2.1.2) → (some (1, rJn v.2.1 w.2.1, noS, none, noS) : Option jW) ≠ some v := fun h q => by
      have q := congrArg (fun x : jW => x.2.1) (Option.some.inj q)
      have q1 : min v.2.1.1 w.2.1.1 = v.2.1.1 := congrArg Prod.fst q
      have q2 : max v.2.1.2 w.2.1.2 = v.2.1.2 := congrArg Prod.snd q
      omega
    by_cases c1 : w.2.1.1 < v.2.1.1
    · rw [if_pos c1, full]
      exact ⟨T, true, rfl, t1, rv, by rw [t6, if_pos rfl], fun _ => ne (Or.inl c1), fun _ => rfl⟩
    · rw [if_neg c1]
      by_cases c2 : v.2.1.2 < w.2.1.2
      · rw [if_pos c2, full]
        exact ⟨T, true, rfl, t1, rv, by rw [t6, if_pos rfl], fun _ => ne (Or.inr c2), fun _ => rfl⟩
      · rw [if_neg c2]
        have es : (1, rJn v.2.1 w.2.1, noS, none, noS) = v := by
          have : rJn v.2.1 w.2.1 = v.2.1 := by
            unfold rJn
            exact Prod.ext (by show min v.2.1.1 w.2.1.1 = v.2.1.1; omega) (by show max v.2.1.2 w.2.1.2 = v.2.1.2; omega)
          rw [this]; exact hv.symm
        rw [es]
        exact ⟨S, false, rfl, vFr_rfl, ⟨by rw [v1]; exact z0, z1, z2, z3⟩, by rw [if_neg (by decide)], fun q => (by cases q), fun q => absurd rfl q⟩
theorem r_jSites (hP : P = 122 ∨ P = 168) {k : Nat} (hk : k < 3324) {o : Option jW} (ho : rVo S P k o) {x : Int} {s : Nat → Bool} (hx : cV x s) (hs : ∀ j, s j = true → j < 63) (hb : ∀ v, o = some v → v = wS v.2.2.1 ∧ ∀ j, v.2.2.1 j = true → j < 63) : ∃ S' c, ja_X13_joinSites 121 P (k : Int) x S = some (0, S') ∧ vFr P k S S' ∧ rVo S' P k (oJ o (some (wS s))) ∧ S'.1 121 37 = (if c = true then 1 else S.1 121 37) ∧ (c = true ↔ oJ o (some (wS s)) ≠ o) := by
  obtain ⟨c46, c47, c48, c49, -, -, -⟩ := jc_Pv hP
  have b2 : nk_i2b 2 = 2 := by decide
  obtain ⟨T, hT⟩ : ∃ T, T = nk_wi (nk_wi (nk_wi S (P + 42) k (nk_lor (S.1 (P + 42) k) x)) (P + 39) k 2) 121 37 1 := ⟨_, rfl⟩
  have t1 : vFr P k S T := by
    rw [hT]
    refine ⟨rfl, fun a h1 h2 => ?_, fun f hf => ?_, fun a j h1 h2 => ?_⟩
    · rw [wi_n h2, wi_n (by omega), wi_n (by omega)]
    · rw [wi_at, if_neg hf, wi_n (by omega), wi_n (by omega)]
    · rw [wi_n h2, wi_v, if_neg (fun q => h1 q.2), wi_v, if_neg (fun q => h1 q.2)]
  have t2 : T.1 (P + 39) k = 2 := by rw [hT, wi_n (by omega), wi_at, if_pos rfl]
  have t3 : T.1 (P + 40) k = S.1 (P + 40) k := by rw [hT, wi_n (by omega), wi_n (by omega), wi_n (by omega)]
  have t4 : T.1 (P + 41) k = S.1 (P + 41) k := by rw [hT, wi_n (by omega), wi_n (by omega), wi_n (by omega)]
  have t5 : T.1 (P + 42) k = nk_lor (S.1 (P + 42) k) x := by rw [hT, wi_n (by omega), wi_n (by omega), wi_at, if_pos rfl]
  have t6 : T.1 121 37 = 1 := by rw [hT, wi_at, if_pos rfl]
  have full : ja_X13_joinSites_b28 121 P (k : Int) x S = some (0, T) := by
    unfold ja_X13_joinSites_b28
    rw [if_pos (in_i (N := 3324) (by omega)), c49, c46, Int.toNat_natCast, b2, lt_eq, lt_eq, lt_eq, ← hT]
  unfold ja_X13_joinSites
  rw [if_pos (in_i (N := 3324) (by omega)), c46, c49, Int.toNat_natCast]
  cases o with
  | none =>
    obtain ⟨z0, z1, z2, z3⟩ := ho
    refine ⟨T, true, by rw [z0, if_neg (by decide)]; exact full, t1, ?_, by rw [t6, if_pos rfl], fun _ q => (by cases q), fun _ => rfl⟩
    show _ ∧ _
    rw [t2, t3, t4, t5]
    refine ⟨rfl, z1, z2, ?_⟩
    have := cV_or z3 hx
    rw [show sOr noS s = s from funext fun j => by unfold sOr noS; rfl] at this
    exact this
  | some v =>
    obtain ⟨z0, z1, z2, z3⟩ := ho
    obtain ⟨hv, h63⟩ := hb v rfl
    have v1 : v.1 = 2 := by rw [hv]; rfl
    rw [v1] at z0
    have z0 : S.1 (P + 39) k = 2 := z0
    have e : oJ (some v) (some (wS s)) = some (wS (sOr v.2.2.1 s)) := by
      show some (wJn v (wS s)) = _
      rw [hv]
      unfold wJn wS
      rw [if_pos ⟨rfl, show (2 : Nat) ≠ 0 by decide⟩]
      dsimp only
      rw [if_pos rfl]
      congr 1
    have cm := cV_and hx (cV_not z3)
    have hz := cV_ex cm (fun j q => by
      unfold sAnd at q
      rw [Bool.and_eq_true] at q
      exact hs j q.1)
    rw [z0, if_pos rfl, e]
    by_cases c : nk_land x (nk_lxor (S.1 (P + 42) k) (-1)) = 0
    · rw [if_pos c]
      have hn := hz.mp c
      have es : sOr v.2.2.1 s = v.2.2.1 := by
        funext j
        unfold sOr
        cases hj : s j with
        | false => rw [Bool.or_false]
        | true =>
          cases hw : v.2.2.1 j with
          | true => rfl
          | false =>
            have : sEx (sAnd s (sNo v.2.2.1)) = true := sEx_iff.mpr ⟨j, hs j hj, by unfold sAnd sNo; rw [hj, hw]; rfl⟩
            rw [hn] at this; cases this
      rw [es, ← hv]
      exact ⟨S, false, rfl, vFr_rfl, ⟨by rw [v1]; exact z0, z1, z2, z3⟩, by rw [if_neg (by decide)], fun q => (by cases q), fun q => absurd rfl q⟩
    · rw [if_neg c, full]
      have z1' : S.1 (P + 40) k = 0 := by rw [z1, hv]; rfl
      have z2' : S.1 (P + 41) k = 0 := by rw [z2, hv]; rfl
      refine ⟨T, true, rfl, t1, ?_, by rw [t6, if_pos rfl], fun _ q => c (hz.mpr ?_), fun _ => rfl⟩
      · show _ ∧ _
        rw [t2, t3, t4, t5]
        exact ⟨rfl, z1', z2', cV_or z3 hx⟩
      · have q1 : sOr v.2.2.1 s = v.2.2.1 := by
          have := congrArg (fun w : jW => w.2.2.1) (Option.some.inj q)
          exact this
        cases hq : sEx (sAnd s (sNo v.2.2.1)) with
        | false => rfl
        | true =>
          obtain ⟨j, j1, j2⟩ := sEx_iff.mp hq
          unfold sAnd sNo at j2
          rw [Bool.and_eq_true] at j2
          have := congrFun q1 j
          unfold sOr at this
          rw [j2.1, Bool.or_true] at this
          rw [← this] at j2
          cases j2.2
end RTB
