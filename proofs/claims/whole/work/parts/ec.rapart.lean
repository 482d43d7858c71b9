/-! The reference compares: apart, whole. -/
section RAQ
variable {F : Int → Prop} {dn up : Int → Int} {S : nk_S} {P n : Nat}
theorem kWo_r (a c : jR) : kWo dn up a c = if c.1 = c.2 then woR dn up a c.1 else some a := by
  unfold kWo woR
  rfl
theorem wRg_id (w : jW) : wRg w w.2.1 = w := rfl
theorem qUp_id (u : jQ) (k : Nat) : qUp u k (u k) = u := by
  funext j
  by_cases e : j = k
  · rw [e, qUp_at]
  · rw [qUp_ne e]
theorem r_apart (hP : P = 122 ∨ P = 168) (hT : thG F dn up) (ht : rTn S P n F) (hn : n ≤ 3079) {t a b : Nat} {u : jQ} (ha : a < t) (hb : b < t) (hne : a ≠ b) (h24 : t ≤ 24) (hr : rRw S t u) (ra : iR (u a).2.1.1 ∧ iR (u a).2.1.2 ∧ (u a).2.1.1 ≤ (u a).2.1.2) (rb : iR (u b).2.1.1 ∧ iR (u b).2.1.2 ∧ (u b).2.1.1 ≤ (u b).2.1.2) : ∃ S', ja_X13_apart 121 P (a : Int) (b : Int) S = some (bi (pNe dn up u a b).isSome, S') ∧ uFr S S' ∧ ∀ w, pNe dn up u a b = some w → rRw S' t w := by
  have z1 : S.1 230 a = (u a).2.1.1 := (hr.2 a ha).2.1
  have z2 : S.1 231 a = (u a).2.1.2 := (hr.2 a ha).2.2.1
  have y1 : S.1 230 b = (u b).2.1.1 := (hr.2 b hb).2.1
  have y2 : S.1 231 b = (u b).2.1.2 := (hr.2 b hb).2.2.1
  -- the second half
  have half : ∀ (T : nk_S) (q : jR), uFr S T → rRw T t (qUp u a (wRg (u a) q)) → kWo dn up (u a).2.1 (u b).2.1 = some q → ∃ S', ja_X13_apart_b50 121 P (b : Int) (u a).2.1.1 (u a).2.1.2 T = some (bi (pNe dn up u a b).isSome, S') ∧ uFr S S' ∧ ∀ w, pNe dn up u a b = some w → rRw S' t w := by
    intro T q fT rT hq
    have hp : pNe dn up u a b = match kWo dn up (u b).2.1 (u a).2.1 with
      | some r => some (qUp (qUp u a (wRg (u a) q)) b (wRg (u b) r))
      | none => none := by
      unfold pNe
      rw [hq]
      cases kWo dn up (u b).2.1 (u a).2.1 <;> rfl
    have ub : qUp u a (wRg (u a) q) b = u b := qUp_ne (fun e => hne e.symm)
    rw [kWo_r] at hp
    unfold ja_X13_apart_b50
    by_cases c : (u a).2.1.1 = (u a).2.1.2
    · rw [if_pos c] at hp
      obtain ⟨S', s1, s2, s3⟩ := r_wo hP hT (rTn_c (S := S) (fun x h1 h2 => fT.2.1 x (by omega) h2) hP ht) hn hb h24 rT (c := (u a).2.1.1) ra.1 (by rw [ub]; exact rb)
      rw [ub] at s1 s3
      rw [if_pos c, s1, bd_some, hp]
      cases hw : woR dn up (u b).2.1 (u a).2.1.1 with
      | none => exact ⟨S', by rw [if_pos (show bi (none : Option jR).isSome = 0 from rfl)]; rfl, uFr_trans fT s2, fun w x => by cases x⟩
      | some r =>
        refine ⟨S', by rw [if_neg (show ¬ bi (some r).isSome = 0 from (show ¬ (1 : Int) = 0 by decide))]; rfl, uFr_trans fT s2, fun w x => ?_⟩
        cases x
        exact s3 r hw
    · rw [if_neg c] at hp
      rw [if_neg c, hp]
      refine ⟨T, rfl, fT, fun w x => ?_⟩
      cases x
      have e1 : wRg (u b) (u b).2.1 = qUp u a (wRg (u a) q) b := by rw [ub]; rfl
      rw [e1, qUp_id]
      exact rT
  unfold ja_X13_apart
  rw [if_pos (in_i (N := 24) (by omega)), jc_121_27, jc_121_28, Int.toNat_natCast, Int.toNat_natCast, z1, z2, lt_eq, lt_eq, if_pos (in_i (N := 24) (by omega)), y1, y2, lt_eq, lt_eq]
  by_cases c : (u b).2.1.1 = (u b).2.1.2
  · obtain ⟨S1, s1, s2, s3⟩ := r_wo hP hT ht hn ha h24 hr (c := (u b).2.1.1) rb.1 ra
    rw [if_pos c, s1, bd_some]
    cases hw : woR dn up (u a).2.1 (u b).2.1.1 with
    | none =>
      have hp : pNe dn up u a b = none := by
        unfold pNe
        rw [kWo_r, if_pos c, hw]
      rw [hp]
      exact ⟨S1, by rw [if_pos (show bi (none : Option jR).isSome = 0 from rfl)]; rfl, s2, fun w x => by cases x⟩
    | some q =>
      rw [if_neg (show ¬ bi (some q).isSome = 0 from (show ¬ (1 : Int) = 0 by decide))]
      exact half S1 q s2 (s3 q hw) (by rw [kWo_r, if_pos c, hw])
  · rw [if_neg c]
    exact half S (u a).2.1 uFr_rfl (by rw [wRg_id, qUp_id]; exact hr) (by rw [kWo_r, if_neg c])
end RAQ
