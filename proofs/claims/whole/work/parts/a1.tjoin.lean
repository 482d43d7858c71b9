/-! Types: below and join in the program and in the reference. -/
def rvU (t : Int) : Int := if t = 0 then 2 else if t = 1 then 0 else if t = 2 then 1 else if t = 3 then 40 else if t % 2 = 0 then 8 + (t - 4) / 2 else 48 + (t - 5) / 2
theorem rvU_T {t : Int} (h : t = 1 ∨ 3 ≤ t) : rvT t = rvU t := by
  unfold rvT rvU
  by_cases c1 : t = 1
  · rw [if_pos c1, if_neg (by omega), if_pos c1]
  rw [if_neg c1, if_neg (show ¬ t = 0 by omega), if_neg c1, if_neg (show ¬ t = 2 by omega)]
  by_cases c3 : t = 3
  · rw [if_pos c3, if_pos c3]
  rw [if_neg c3, if_neg c3, if_neg (by omega)]
section TYJ
variable {us : List Int}
theorem rvU_k (h32 : us.length ≤ 32) {t : Int} (v : tV us t) : (t = 0 ∧ rvU t = 2) ∨ (t = 1 ∧ rvU t = 0) ∨ (t = 2 ∧ rvU t = 1) ∨ (t = 3 ∧ rvU t = 40) ∨ (3 < t ∧ t % 2 = 0 ∧ rvU t = 8 + (cl t : Int) ∧ cl t < 32) ∨ (4 < t ∧ t % 2 = 1 ∧ rvU t = 48 + (cl t : Int) ∧ cl t < 32) := by
  unfold rvU cl tV at *
  by_cases c0 : t = 0
  · rw [if_pos c0]; omega
  rw [if_neg c0]
  by_cases c1 : t = 1
  · rw [if_pos c1]; omega
  rw [if_neg c1]
  by_cases c2 : t = 2
  · rw [if_pos c2]; omega
  rw [if_neg c2]
  by_cases c3 : t = 3
  · rw [if_pos c3]; omega
  rw [if_neg c3]
  by_cases c4 : t % 2 = 0
  · rw [if_pos c4]; omega
  · rw [if_neg c4]; omega
theorem rvU_s (h32 : us.length ≤ 32) {t : Int} (v : tV us t) : (rvU t = 2 ↔ t = 0) ∧ (rvU t = 0 ↔ t = 1) ∧ (rvU t = 1 ↔ t = 2) ∧ (rvU t = 40 ↔ t = 3) ∧ (rvU t = 8 ↔ t = 4) ∧ (8 ≤ rvU t ∧ rvU t < 40 ↔ 3 < t ∧ t % 2 = 0) ∧ (48 ≤ rvU t ↔ 3 < t ∧ t % 2 = 1) ∧ (3 < t → t % 2 = 0 → rvU t = 8 + (cl t : Int) ∧ cl t < 32) ∧ (3 < t → t % 2 = 1 → rvU t = 48 + (cl t : Int) ∧ cl t < 32) ∧ 0 ≤ rvU t ∧ rvU t < 80 := by
  have e : cl t = ((t - 4) / 2).toNat := rfl
  rcases rvU_k h32 v with h | h | h | h | h | h <;> (refine ⟨?_, ?_, ?_, ?_, ?_, ?_, ?_, ?_, ?_, ?_, ?_⟩ <;> omega)
theorem rvU_i (h32 : us.length ≤ 32) {s t : Int} (vs : tV us s) (vt : tV us t) : rvU s = rvU t ↔ s = t := by
  constructor
  · intro h
    have e : cl t = ((t - 4) / 2).toNat := rfl
    have e' : cl s = ((s - 4) / 2).toNat := rfl
    rcases rvU_k h32 vs with a | a | a | a | a | a <;> rcases rvU_k h32 vt with b | b | b | b | b | b <;> omega
  · intro h; rw [h]
/-- the reference's rows of classes -/
def rUs (S : nk_S) (P : Nat) (us : List Int) : Prop := ∀ j, j < us.length → S.1 (P + 1) j = us.getD j 0
theorem m_beL {S : nk_S} {P : Nat} (hP : P = 122 ∨ P = 168) (hC : rUs S P us) (hu : uOk us) (h32 : us.length ≤ 32) {d : Nat} : ∀ (n c m : Nat), c < n → c < us.length → n < m → ja_X13_isAtOrBelow_L2 m P (d : Int) (c : Int) S = some (bi (anc us c d), S) := by
  intro n
  induction n with
  | zero => intro c m h1; omega
  | succ n ih =>
    intro c m h1 h2 h3
    obtain ⟨m, rfl⟩ : ∃ q, m = q + 1 := ⟨m - 1, by omega⟩
    show ja_X13_isAtOrBelow_b2 (ja_X13_isAtOrBelow_L2 m) P (d : Int) (c : Int) S = _
    unfold ja_X13_isAtOrBelow_b2
    rw [if_neg (show ¬ (c : Int) < 0 by omega)]
    by_cases q : c = d
    · rw [if_pos (show (c : Int) = (d : Int) by omega), q, anc_self]
      unfold ja_X13_isAtOrBelow_b21
      rw [if_neg (by omega)]
      rfl
    · rw [if_neg (show ¬ (c : Int) = (d : Int) by omega), if_pos (in_i (N := 32) (by omega)), lt_eq, jc_P8 hP, Int.toNat_natCast, hC c h2]
      by_cases q0 : c = 0
      · subst q0
        rw [hu.1]
        obtain ⟨m, rfl⟩ : ∃ q, m = q + 1 := ⟨m - 1, by omega⟩
        show ja_X13_isAtOrBelow_b2 (ja_X13_isAtOrBelow_L2 m) P (d : Int) (-1) S = _
        unfold ja_X13_isAtOrBelow_b2 ja_X13_isAtOrBelow_b21
        rw [if_pos (by decide), if_pos (by decide), anc_0 hu, decide_eq_false q]
        rfl
      · obtain ⟨u, u1, u2⟩ := hu.2 c (by omega) (by omega)
        rw [u1, ih u m (by omega) (by omega) (by omega), anc_s hu (by omega) (by omega) (by omega) u1, decide_eq_false q, Bool.false_or]
theorem m_an {S : nk_S} {P : Nat} (hP : P = 122 ∨ P = 168) (hC : rUs S P us) (hu : uOk us) (h32 : us.length ≤ 32) {c d : Nat} (hc : c < us.length) : ja_X13_isAtOrBelow P (c : Int) (d : Int) S = some (bi (anc us c d), S) := by
  obtain ⟨m, hm⟩ := big_ge 100 (by decide)
  exact m_beL hP hC hu h32 32 c nk_big (by omega) hc (by omega)
theorem m_isBe {S : nk_S} {P : Nat} (hP : P = 122 ∨ P = 168) (hC : rUs S P us) (hu : uOk us) (h32 : us.length ≤ 32) {s t : Int} (vs : tV us s) (vt : tV us t) : ja_X13_isBelow P (rvU s) (rvU t) S = some (bi (tLe us s t), S) := by
  obtain ⟨a1, a2, a3, a4, a5, a6, a7, a8, a9, a10, a11⟩ := rvU_s h32 vs
  obtain ⟨b1, b2, b3, b4, b5, b6, b7, b8, b9, b10, b11⟩ := rvU_s h32 vt
  have hi := rvU_i h32 vs vt
  have vs' := vs
  have vt' := vt
  unfold tV at vs' vt'
  unfold ja_X13_isBelow tLe
  by_cases c0 : t = 0
  · rw [if_pos (b1.mpr c0)]
    by_cases c1 : s = t
    · rw [if_pos c1]; rfl
    · rw [if_neg c1, if_pos c0]; rfl
  rw [if_neg (fun h => c0 (b1.mp h))]
  by_cases c1 : s = t
  · rw [if_pos (hi.mpr c1), if_pos c1]; rfl
  rw [if_neg (fun h => c1 (hi.mp h)), if_neg c1, if_neg c0]
  by_cases d0 : s = 0
  · rw [if_pos (a1.mpr d0), if_pos (by omega)]; rfl
  rw [if_neg (fun h => d0 (a1.mp h))]
  by_cases d1 : s = 1
  · rw [if_pos (a2.mpr d1), if_pos (by omega)]; rfl
  rw [if_neg (fun h => d1 (a2.mp h)), if_neg (show ¬ s < 2 by omega)]
  by_cases e1 : t = 1
  · rw [if_pos (b2.mpr e1), if_neg (by omega)]; rfl
  rw [if_neg (fun h => e1 (b2.mp h))]
  by_cases e2 : t = 2
  · rw [if_pos (b3.mpr e2), if_neg (by omega)]; rfl
  rw [if_neg (fun h => e2 (b3.mp h)), if_pos (show 2 < t by omega)]
  by_cases d2 : s = 2
  · rw [if_pos (a3.mpr d2), if_pos d2]; rfl
  rw [if_neg (fun h => d2 (a3.mp h)), if_neg d2]
  by_cases e4 : t = 4
  · rw [if_pos (b5.mpr e4), if_pos e4]; rfl
  rw [if_neg (fun h => e4 (b5.mp h)), if_neg e4]
  unfold ja_X13_isClass
  by_cases p : 3 < s ∧ s % 2 = 0
  · obtain ⟨x1, x2⟩ := a6.mpr p
    rw [if_neg (show ¬ rvU s < 8 by omega), if_neg (show ¬ 40 ≤ rvU s by omega), bd_some, if_neg (by decide), if_neg (show ¬ s = 3 by omega)]
    by_cases r : 3 < t ∧ t % 2 = 0
    · obtain ⟨y1, y2⟩ := b6.mpr r
      rw [if_neg (show ¬ rvU t < 8 by omega), if_neg (show ¬ 40 ≤ rvU t by omega), bd_some, if_neg (by decide), if_neg (show ¬ t = 3 by omega), if_pos (by omega)]
      obtain ⟨f1, f2⟩ := a8 p.1 p.2
      obtain ⟨g1, g2⟩ := b8 r.1 r.2
      have w1 : nk_w (rvU s - 8) = (cl s : Int) := by rw [f1, show (8 : Int) + (cl s : Int) - 8 = (cl s : Int) by omega]; exact nk_w_id (by omega) (by omega)
      have w2 : nk_w (rvU t - 8) = (cl t : Int) := by rw [g1, show (8 : Int) + (cl t : Int) - 8 = (cl t : Int) by omega]; exact nk_w_id (by omega) (by omega)
      rw [w1, w2]
      clear w1 w2
      rw [m_an hP hC hu h32 (cl_lt vs (by omega)), bd_some]
      cases anc us (cl s) (cl t) <;> rfl
    · have q : ¬ (8 ≤ rvU t ∧ rvU t < 40) := fun h => r (b6.mp h)
      have fin : (if t = 3 then false else if s % 2 = t % 2 then anc us (cl s) (cl t) else false) = false := by
        by_cases e3 : t = 3
        · rw [if_pos e3]
        · rw [if_neg e3, if_neg (by omega)]
      rw [fin]
      by_cases q8 : rvU t < 8
      · rw [if_pos q8, bd_some, if_pos rfl]; rfl
      · rw [if_neg q8, if_pos (by omega), bd_some, if_pos rfl]; rfl
  · have q : ¬ (8 ≤ rvU s ∧ rvU s < 40) := fun h => p (a6.mp h)
    have x8 : ¬ rvU s < 8 := by
      intro h
      rcases rvU_k h32 vs with k | k | k | k | k | k <;> omega
    rw [if_neg x8, if_pos (show 40 ≤ rvU s by omega), bd_some, if_pos rfl]
    by_cases d3 : s = 3
    · rw [if_pos (show rvU s < 48 by have := a4.mpr d3; omega), if_pos d3]; rfl
    rw [if_neg d3]
    have po : 3 < s ∧ s % 2 = 1 := by omega
    rw [if_neg (show ¬ rvU s < 48 by have := a7.mpr po; omega)]
    by_cases r : 3 < t ∧ t % 2 = 1
    · rw [if_neg (show ¬ rvU t < 48 by have := b7.mpr r; omega), if_neg (show ¬ t = 3 by omega), if_pos (show s % 2 = t % 2 by omega)]
      obtain ⟨f1, f2⟩ := a9 po.1 po.2
      obtain ⟨g1, g2⟩ := b9 r.1 r.2
      have w1 : nk_w (rvU s - 48) = (cl s : Int) := by rw [f1, show (48 : Int) + (cl s : Int) - 48 = (cl s : Int) by omega]; exact nk_w_id (by omega) (by omega)
      have w2 : nk_w (rvU t - 48) = (cl t : Int) := by rw [g1, show (48 : Int) + (cl t : Int) - 48 = (cl t : Int) by omega]; exact nk_w_id (by omega) (by omega)
      rw [w1, w2]
      clear w1 w2
      rw [m_an hP hC hu h32 (cl_lt vs (by omega)), bd_some]
      cases anc us (cl s) (cl t) <;> rfl
    · have q' : ¬ 48 ≤ rvU t := fun h => r (b7.mp h)
      have fin : (if t = 3 then false else if s % 2 = t % 2 then anc us (cl s) (cl t) else false) = false := by
        by_cases e3 : t = 3
        · rw [if_pos e3]
        · rw [if_neg e3, if_neg (by omega)]
      rw [fin, if_pos (show rvU t < 48 by omega)]; rfl
theorem m_joinL {S : nk_S} {P : Nat} (hP : P = 122 ∨ P = 168) (hC : rUs S P us) (hu : uOk us) (h32 : us.length ≤ 32) {b o : Nat} (hb : b < us.length) (ho : o < 50) : ∀ (n c m : Nat), c < n → c < us.length → n < m → ja_X13_joined_L102 m P ((o + b : Nat) : Int) (o : Int) (c : Int) S = some (((o + lcF us n c b : Nat) : Int), S) := by
  intro n
  induction n with
  | zero => intro c m h1; omega
  | succ n ih =>
    intro c m h1 h2 h3
    obtain ⟨m, rfl⟩ : ∃ q, m = q + 1 := ⟨m - 1, by omega⟩
    show ja_X13_joined_b102 (ja_X13_joined_L102 m) P ((o + b : Nat) : Int) (o : Int) (c : Int) S = _
    unfold ja_X13_joined_b102
    have w1 : nk_w (((o + b : Nat) : Int) - (o : Int)) = (b : Int) := by rw [show ((o + b : Nat) : Int) - (o : Int) = (b : Int) by omega]; exact nk_w_id (by omega) (by omega)
    rw [w1]
    clear w1
    rw [m_an hP hC hu h32 hb, bd_some, lcF]
    cases hh : anc us b c with
    | true =>
      have w2 : nk_w ((o : Int) + (c : Int)) = ((o + c : Nat) : Int) := by rw [show (o : Int) + (c : Int) = ((o + c : Nat) : Int) by omega]; exact nk_w_id (by omega) (by omega)
      rw [if_neg (show ¬ bi true = 0 by decide), if_pos rfl, w2]
    | false =>
      rw [if_pos (show bi false = 0 from rfl), if_neg (show ¬ (false = true) by decide), if_pos (in_i (N := 32) (by omega)), lt_eq, jc_P8 hP, Int.toNat_natCast, hC c h2]
      by_cases q : c = 0
      · subst q
        rw [anc_root hu h32 _ b (Nat.lt_succ_self b) hb] at hh
        cases hh
      · obtain ⟨u, u1, u2⟩ := hu.2 c (by omega) h2
        rw [u1, Int.toNat_natCast]
        exact ih u m (by omega) (by omega) (by omega)
theorem tJn_le (h : uOk us) (h32 : us.length ≤ 32) (h1 : 1 ≤ us.length) {s t : Int} (vs : tV us s) (vt : tV us t) : (tLe us s t = true → tJn us s t = t) ∧ (tLe us t s = true → tJn us s t = s) := by
  obtain ⟨u1, u2⟩ := tJn_ub h h32 vs vt
  have v := tJn_v h h32 h1 vs vt
  exact ⟨fun k => tLe_anti h h32 v vt (tJn_lub h h32 vs vt k (tLe_refl t)) u2, fun k => tLe_anti h h32 v vs (tJn_lub h h32 vs vt (tLe_refl s) k) u1⟩
theorem m_join {S : nk_S} {P : Nat} (hP : P = 122 ∨ P = 168) (hC : rUs S P us) (hu : uOk us) (h32 : us.length ≤ 32) (h1 : 1 ≤ us.length) {s t : Int} (vs : tV us s) (vt : tV us t) : ja_X13_joined P (rvU s) (rvU t) S = some (rvU (tJn us s t), S) := by
  obtain ⟨j1, j2⟩ := tJn_le hu h32 h1 vs vt
  obtain ⟨a1, a2, a3, a4, a5, a6, a7, a8, a9, a10, a11⟩ := rvU_s h32 vs
  obtain ⟨b1, b2, b3, b4, b5, b6, b7, b8, b9, b10, b11⟩ := rvU_s h32 vt
  have vs' := vs
  have vt' := vt
  unfold tV at vs' vt'
  unfold ja_X13_joined
  rw [m_isBe hP hC hu h32 vs vt, bd_some]
  cases c1 : tLe us s t with
  | true => rw [if_neg (show ¬ bi true = 0 by decide), j1 c1]
  | false =>
    rw [if_pos (show bi false = 0 from rfl), m_isBe hP hC hu h32 vt vs, bd_some]
    cases c2 : tLe us t s with
    | true => rw [if_neg (show ¬ bi true = 0 by decide), j2 c2]
    | false =>
      rw [if_pos (show bi false = 0 from rfl)]
      have n1 : ¬ (s = t ∨ t = 0 ∨ (2 ≤ s ∧ 2 < t ∧ (s = 2 ∨ t = 4 ∨ (s ≠ 3 ∧ t ≠ 3 ∧ s % 2 = t % 2 ∧ anc us (cl s) (cl t) = true)))) := fun h => by rw [(tLe_iff (us := us) s t).mpr h] at c1; cases c1
      have n2 : ¬ (t = s ∨ s = 0 ∨ (2 ≤ t ∧ 2 < s ∧ (t = 2 ∨ s = 4 ∨ (t ≠ 3 ∧ s ≠ 3 ∧ t % 2 = s % 2 ∧ anc us (cl t) (cl s) = true)))) := fun h => by rw [(tLe_iff (us := us) t s).mpr h] at c2; cases c2
      have m1 : s ≠ t ∧ t ≠ 0 ∧ s ≠ 0 ∧ ¬ (2 ≤ s ∧ 2 < t ∧ (s = 2 ∨ t = 4)) ∧ ¬ (2 ≤ t ∧ 2 < s ∧ (t = 2 ∨ s = 4)) := ⟨fun h => n1 (Or.inl h), fun h => n1 (Or.inr (Or.inl h)), fun h => n2 (Or.inr (Or.inl h)), fun h => n1 (Or.inr (Or.inr ⟨h.1, h.2.1, h.2.2.elim Or.inl (fun x => Or.inr (Or.inl x))⟩)), fun h => n2 (Or.inr (Or.inr ⟨h.1, h.2.1, h.2.2.elim Or.inl (fun x => Or.inr (Or.inl x))⟩))⟩
      clear n1 n2
      rcases tJn_k (us := us) s t with ⟨a, e⟩ | ⟨a, x1, e⟩ | ⟨x1, x2, e⟩ | ⟨x1, x2, e⟩ | ⟨a, x1, x2, x3, e⟩ | ⟨a, x1, x2, x3, e⟩
      · exact absurd a m1.1
      · rw [e]
        by_cases d : s = 1
        · rw [if_pos (a2.mpr d)]; rfl
        · rw [if_neg (fun h => d (a2.mp h)), if_pos (b2.mpr (by omega))]; rfl
      · omega
      · omega
      · rw [e, if_neg (fun h => by have := a2.mp h; omega), if_neg (fun h => by have := b2.mp h; omega)]
        unfold ja_X13_isClass ja_X13_joined_b50 ja_X13_joined_b51 ja_X13_joined_b68 ja_X13_joined_b69
        by_cases p : 3 < s ∧ s % 2 = 0
        · have q := a6.mpr p
          have r : ¬ (3 < t ∧ t % 2 = 0) := by omega
          have r2 : ¬ (8 ≤ rvU t ∧ rvU t < 40) := fun h => r (b6.mp h)
          rw [if_neg (show ¬ rvU s < 8 by omega), if_neg (show ¬ 40 ≤ rvU s by omega), bd_some, if_neg (by decide)]
          by_cases y : rvU t < 8
          · rw [if_pos y, bd_some, if_pos rfl, if_pos (show rvU s < 48 by omega), if_pos rfl, if_pos rfl]; rfl
          · rw [if_neg y, if_pos (show 40 ≤ rvU t by omega), bd_some, if_pos rfl, if_pos (show rvU s < 48 by omega), if_pos rfl, if_pos rfl]; rfl
        · have q : ¬ (8 ≤ rvU s ∧ rvU s < 40) := fun h => p (a6.mp h)
          have fin : (if rvU s < 48 then (if (0 : Int) = 0 then (if (0 : Int) = 0 then some ((8 : Int), S) else ja_X13_joined_b83 P (rvU s) (rvU t) 0 S) else ja_X13_joined_b83 P (rvU s) (rvU t) 0 S) else if rvU t < 48 then (if (0 : Int) = 0 then (if (0 : Int) = 0 then some ((8 : Int), S) else ja_X13_joined_b83 P (rvU s) (rvU t) 0 S) else ja_X13_joined_b83 P (rvU s) (rvU t) 0 S) else (if (0 : Int) = 0 then (if (1 : Int) = 0 then some ((8 : Int), S) else ja_X13_joined_b83 P (rvU s) (rvU t) 0 S) else ja_X13_joined_b83 P (rvU s) (rvU t) 0 S)) = some (rvU 4, S) := by
            by_cases y : rvU s < 48
            · rw [if_pos y, if_pos rfl, if_pos rfl]; rfl
            · have s3 := a7.mp (by omega)
              rw [if_neg y, if_pos (show rvU t < 48 from ?_), if_pos rfl, if_pos rfl]
              · rfl
              · by_cases y2 : rvU t < 48
                · exact y2
                · have t3 := b7.mp (by omega)
                  omega
          by_cases y : rvU s < 8
          · rw [if_pos y, bd_some, if_pos rfl]; exact fin
          · rw [if_neg y, if_pos (show 40 ≤ rvU s by omega), bd_some, if_pos rfl]; exact fin
      · obtain ⟨m, hm⟩ := big_ge 100 (by decide)
        have cs := cl_lt vs (by omega)
        have ct := cl_lt vt (by omega)
        have lk := (lca_k hu h32 cs ct).2.2.1
        rw [e, if_neg (fun h => by have := a2.mp h; omega), if_neg (fun h => by have := b2.mp h; omega)]
        unfold ja_X13_isClass ja_X13_joined_b50 ja_X13_joined_b51 ja_X13_joined_b68 ja_X13_joined_b69 ja_X13_joined_b83 ja_X13_joined_b94
        obtain ⟨y1, y2⟩ := cl_j (L := lca us (cl s) (cl t)) (s := s)
        have vJ : tV us (4 + 2 * (lca us (cl s) (cl t) : Int) + s % 2) := by unfold tV; omega
        obtain ⟨-, -, -, -, -, -, -, J8, J9, -⟩ := rvU_s h32 vJ
        by_cases p : s % 2 = 0
        · have q := a6.mpr ⟨by omega, p⟩
          have r := b6.mpr ⟨by omega, by omega⟩
          obtain ⟨f1, f2⟩ := a8 (by omega) p
          obtain ⟨g1, g2⟩ := b8 (by omega) (by omega)
          rw [if_neg (show ¬ rvU s < 8 by omega), if_neg (show ¬ 40 ≤ rvU s by omega), bd_some, if_neg (by decide), if_neg (show ¬ rvU t < 8 by omega), if_neg (show ¬ 40 ≤ rvU t by omega), bd_some, if_neg (by decide), if_pos (show rvU s < 48 by omega), if_neg (by decide), if_neg (by decide)]
          have w1 : nk_w (rvU s - 8) = (cl s : Int) := by rw [f1, show (8 : Int) + (cl s : Int) - 8 = (cl s : Int) by omega]; exact nk_w_id (by omega) (by omega)
          rw [lt_eq, w1, g1, (J8 (by omega) (by omega)).1, y1]
          clear w1
          exact m_joinL hP hC hu h32 (o := 8) ct (by decide) 64 (cl s) nk_big (by omega) cs (by omega)
        · have q := a7.mpr ⟨by omega, by omega⟩
          have r := b7.mpr ⟨by omega, by omega⟩
          obtain ⟨f1, f2⟩ := a9 (by omega) (by omega)
          obtain ⟨g1, g2⟩ := b9 (by omega) (by omega)
          rw [if_neg (show ¬ rvU s < 8 by omega), if_pos (show 40 ≤ rvU s by omega), bd_some, if_pos rfl, if_neg (show ¬ rvU s < 48 by omega), if_neg (show ¬ rvU t < 48 by omega), if_pos rfl, if_neg (by decide), if_pos rfl]
          have w1 : nk_w (rvU s - 48) = (cl s : Int) := by rw [f1, show (48 : Int) + (cl s : Int) - 48 = (cl s : Int) by omega]; exact nk_w_id (by omega) (by omega)
          rw [lt_eq, w1, g1, (J9 (by omega) (by omega)).1, y1]
          clear w1
          exact m_joinL hP hC hu h32 (o := 48) ct (by decide) 64 (cl s) nk_big (by omega) cs (by omega)
end TYJ
