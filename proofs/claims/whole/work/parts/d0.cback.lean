/-! The class comes back from calls. -/
section CBK
variable {F : Int → Prop} {S : nk_S} {us : List Int} {z : jL} {u : jQ} {G : jZ} {l h : Nat}
/-- behind a call: the arguments go, the result comes -/
theorem c_b207 (hT : thG F (zDn G) (zUp G)) (hr : cRw l h S u) {ar : Nat} (har : ar ≤ h) (h8 : h ≤ 8) {ty : Int} (ht : ty = 1 ∨ 2 ≤ ty ∨ ty = -1) (hlv : ty ≠ -1 → h - ar < 8) {o : Option jW} (ho : ∀ w, o = some w → vl1 F us z ty w) (h12 : cVl ty (S.1 92 12) o) {cb : Bool} (h13 : S.1 92 13 = bi cb) : ∃ S', ja_X4_calls_b207 92 (ar : Int) ty S = some (bi cb, S') ∧ wFr S S' ∧ (ty = -1 → cRw l (h - ar) S' u) ∧ ∀ w, o = some w → ty ≠ -1 → cRw l (h - ar + 1) S' (qUp u (12 + (h - ar)) w) := by
  obtain ⟨S1, s1, s2, s3⟩ := c_drop hr har h8
  have e92 : ∀ T, wFr S T → T.1 92 = S.1 92 := fun T hT' => hT'.2.1 92 (by decide) (by decide) (by decide)
  unfold ja_X4_calls_b207
  rw [jc_92_2, s1, bd_some, e92 S1 s2, h13]
  rcases ht with q | q | q
  · subst q
    rw [if_neg (by decide), if_pos rfl]
    unfold ja_X4_calls_b245
    rw [cVl_n] at h12
    cases o with
    | none =>
      obtain ⟨S2, q1, q2⟩ := c_pushA s3.2.1 (hlv (by decide)) (S.1 92 12) 4503599627370496
      rw [q1, bd_some, e92 S2 (wFr_trans s2 q2), h13, if_pos (bi_01 _)]
      exact ⟨S2, rfl, wFr_trans s2 q2, (fun e => by cases e), fun w e => by cases e⟩
    | some w =>
      obtain ⟨S2, q1, q2, q3⟩ := c_push s3 (hlv (by decide)) (cSt_R (r := w.2.1))
      have h12' : S.1 92 12 = pk w.2.1 := h12
      rw [h12', q1, bd_some, e92 S2 (wFr_trans s2 q2), h13, if_pos (bi_01 _)]
      refine ⟨S2, rfl, wFr_trans s2 q2, (fun e => by cases e), fun w' e _ => ?_⟩
      cases e
      rw [← (vl1_n (ho w rfl)).1] at q3
      exact q3
  · have hn1 : ¬ ty = -1 := by omega
    have hn2 : ¬ ty = 1 := by omega
    rw [if_neg hn1, if_neg hn2]
    unfold ja_X4_calls_b245
    rw [cVl_r q] at h12
    cases o with
    | none =>
      obtain ⟨S2, q1, q2⟩ := c_pushA s3.2.1 (hlv hn1) (S.1 92 12) 9007199254740992
      rw [q1, bd_some, e92 S2 (wFr_trans s2 q2), h13, if_pos (bi_01 _)]
      exact ⟨S2, rfl, wFr_trans s2 q2, (fun e => absurd e hn1), fun w e => by cases e⟩
    | some w =>
      obtain ⟨S2, q1, q2, q3⟩ := c_push s3 (hlv hn1) (cSt_S (v := S.1 92 12) (s := w.2.2.1) h12)
      rw [q1, bd_some, e92 S2 (wFr_trans s2 q2), h13, if_pos (bi_01 _)]
      refine ⟨S2, rfl, wFr_trans s2 q2, (fun e => absurd e hn1), fun w' e _ => ?_⟩
      cases e
      rw [← (vl1_r q (ho w rfl)).1] at q3
      exact q3
  · rw [if_pos q, if_pos (bi_01 _)]
    exact ⟨S1, rfl, s2, fun _ => s3, fun w _ e => absurd q e⟩
end CBK
