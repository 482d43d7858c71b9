/-! The law's loop: if both sides answer alike at every call and keep what is known, it answers 1. -/
theorem nk_w_id {z : Int} (h1 : -2147483648 ≤ z) (h2 : z < 2147483648) : nk_w z = z := Int.bmod_eq_of_le (by omega) (by omega)
/-- both sides go through, answer alike, and what is known is kept -/
def jb_two (Inv : nk_S → Prop) (f g : nk_S → Option (Int × nk_S)) : Prop := ∀ S, Inv S → ∃ r S1 S2, f S = some (r, S1) ∧ g S1 = some (r, S2) ∧ Inv S2
theorem jb_bd2 {Inv : nk_S → Prop} {f g : nk_S → Option (Int × nk_S)} {S : nk_S} {k : Int → Int → nk_S → Option (Int × nk_S)} {P : Int × nk_S → Prop} (h : jb_two Inv f g) (hi : Inv S) (c : ∀ r S2, Inv S2 → ∃ R, k r r S2 = some R ∧ P R) : ∃ R, nk_bd (f S) (fun r S1 => nk_bd (g S1) fun r2 S2 => k r r2 S2) = some R ∧ P R := by
  obtain ⟨r, S1, S2, e1, e2, hi2⟩ := h S hi
  obtain ⟨R, e3, hp⟩ := c r S2 hi2
  refine ⟨R, ?_, hp⟩
  rw [e1]
  show nk_bd (g S1) (fun r2 S2 => k r r2 S2) = some R
  rw [e2]
  exact e3
section JBL
variable {Inv : nk_S → Prop}
/-- what is wanted of every call -/
def jb_all (Inv : nk_S → Prop) : Prop := (∀ (a : Int32) (b : Int32) (c : Int32) (d : Int32) (e : Int32), jb_two Inv (ja_X11_feed 0 a.toInt b.toInt c.toInt d.toInt e.toInt) (ja_X13_feed 121 a.toInt b.toInt c.toInt d.toInt e.toInt)) ∧ (∀ (a : Int32), jb_two Inv (ja_X11_end 0 a.toInt) (ja_X13_end 121 a.toInt)) ∧ (jb_two Inv (ja_X11_load 0 ) (ja_X13_load 121 )) ∧ (jb_two Inv (ja_X11_faultAt 0 ) (ja_X13_faultAt 121 )) ∧ (∀ (a : Int32), jb_two Inv (ja_X11_size 0 a.toInt) (ja_X13_size 121 a.toInt)) ∧ (∀ (a : Int32), jb_two Inv (ja_X11_errors 0 a.toInt) (ja_X13_errors 121 a.toInt)) ∧ (∀ (a : Int32), jb_two Inv (ja_X11_escapes 0 a.toInt) (ja_X13_escapes 121 a.toInt)) ∧ (jb_two Inv (ja_X11_ends 0 ) (ja_X13_ends 121 )) ∧ (∀ (a : Int32) (b : Int32), jb_two Inv (ja_X11_kind 0 a.toInt b.toInt) (ja_X13_kind 121 a.toInt b.toInt)) ∧ (∀ (a : Int32) (b : Int32), jb_two Inv (ja_X11_low 0 a.toInt b.toInt) (ja_X13_low 121 a.toInt b.toInt)) ∧ (∀ (a : Int32) (b : Int32), jb_two Inv (ja_X11_high 0 a.toInt b.toInt) (ja_X13_high 121 a.toInt b.toInt)) ∧ (∀ (a : Int32) (b : Int32), jb_two Inv (ja_X11_sites 0 a.toInt b.toInt) (ja_X13_sites 121 a.toInt b.toInt)) ∧ (∀ (a : Int32) (b : Int32) (c : Int32), jb_two Inv (ja_X11_fact 0 a.toInt b.toInt c.toInt) (ja_X13_fact 121 a.toInt b.toInt c.toInt)) ∧ (∀ (a : Int32) (b : Int32), jb_two Inv (ja_X11_lengths 0 a.toInt b.toInt) (ja_X13_lengths 121 a.toInt b.toInt)) ∧ (∀ (a : Int32), jb_two Inv (ja_X11_input 0 a.toInt) (ja_X13_input 121 a.toInt)) ∧ (∀ (a : Int32), jb_two Inv (ja_X11_run 0 a.toInt) (ja_X13_run 121 a.toInt)) ∧ (jb_two Inv (ja_X11_steps 0 ) (ja_X13_steps 121 )) ∧ (jb_two Inv (ja_X11_place 0 ) (ja_X13_place 121 )) ∧ (jb_two Inv (ja_X11_thrown 0 ) (ja_X13_thrown 121 )) ∧ (jb_two Inv (ja_X11_written 0 ) (ja_X13_written 121 )) ∧ (∀ (a : Int32), jb_two Inv (ja_X11_out 0 a.toInt) (ja_X13_out 121 a.toInt)) ∧ (jb_two Inv (ja_X11_strays 0 ) (ja_X13_strays 121 ))
set_option maxHeartbeats 2000000 in
theorem jb_step {zs : List Int32} {rec18 : Nat → Nat → Int → nk_S → Option (Int × nk_S)} {x : Int} {S : nk_S} (HA : jb_all Inv) (hx0 : 0 ≤ x) (hx1 : x + 5 < zs.length) (hz : zs.length ≤ 3072) (hi : Inv S) (hrec : ∀ S2, Inv S2 → ∃ R, rec18 0 121 (x + 6) S2 = some R ∧ R.1 = 1) : ∃ R, ja_L_law_b27 zs rec18 0 121 x S = some R ∧ R.1 = 1 := by
  obtain ⟨H0, H1, H2, H3, H4, H5, H6, H7, H8, H9, H10, H11, H12, H13, H14, H15, H16, H17, H18, H19, H20, H21⟩ := HA
  unfold ja_L_law_b27
  have e1 : nk_w (x + 1) = x + 1 := nk_w_id (by omega) (by omega)
  have e2 : nk_w (x + 2) = x + 2 := nk_w_id (by omega) (by omega)
  have e3 : nk_w (x + 3) = x + 3 := nk_w_id (by omega) (by omega)
  have e4 : nk_w (x + 4) = x + 4 := nk_w_id (by omega) (by omega)
  have e5 : nk_w (x + 5) = x + 5 := nk_w_id (by omega) (by omega)
  have e6 : nk_w (x + 6) = x + 6 := nk_w_id (by omega) (by omega)
  simp only [e1, e2, e3, e4, e5, e6, nk_lt]
  have c0 : 0 ≤ x ∧ x < (zs.length : Int) := ⟨by omega, by omega⟩
  have c1 : 0 ≤ x + 1 ∧ x + 1 < (zs.length : Int) := ⟨by omega, by omega⟩
  have c2 : 0 ≤ x + 2 ∧ x + 2 < (zs.length : Int) := ⟨by omega, by omega⟩
  have c3 : 0 ≤ x + 3 ∧ x + 3 < (zs.length : Int) := ⟨by omega, by omega⟩
  have c4 : 0 ≤ x + 4 ∧ x + 4 < (zs.length : Int) := ⟨by omega, by omega⟩
  have c5 : 0 ≤ x + 5 ∧ x + 5 < (zs.length : Int) := ⟨by omega, by omega⟩
  simp only [c0, c1, c2, c3, c4, c5, and_self, if_true]
  generalize nk_iand (zs.getD x.toNat 0).toInt 31 = v
  by_cases hv0 : v = 0
  · rw [if_pos hv0]
    exact jb_bd2 (H0 _ _ _ _ _) hi (k := fun r r2 S2 => if r = r2 then rec18 0 121 (x + 6) S2 else some (0, S2)) (fun r S2 h2 => by rw [if_pos rfl]; exact hrec S2 h2)
  rw [if_neg hv0]
  by_cases hv1 : v = 1
  · rw [if_pos hv1]
    exact jb_bd2 (H1 _) hi (k := fun r r2 S2 => if r = r2 then rec18 0 121 (x + 6) S2 else some (0, S2)) (fun r S2 h2 => by rw [if_pos rfl]; exact hrec S2 h2)
  rw [if_neg hv1]
  by_cases hv2 : v = 2
  · rw [if_pos hv2]
    exact jb_bd2 (H2) hi (k := fun r r2 S2 => if r = r2 then rec18 0 121 (x + 6) S2 else some (0, S2)) (fun r S2 h2 => by rw [if_pos rfl]; exact hrec S2 h2)
  rw [if_neg hv2]
  by_cases hv3 : v = 3
  · rw [if_pos hv3]
    exact jb_bd2 (H3) hi (k := fun r r2 S2 => if r = r2 then rec18 0 121 (x + 6) S2 else some (0, S2)) (fun r S2 h2 => by rw [if_pos rfl]; exact hrec S2 h2)
  rw [if_neg hv3]
  by_cases hv4 : v = 4
  · rw [if_pos hv4]
    exact jb_bd2 (H4 _) hi (k := fun r r2 S2 => if r = r2 then rec18 0 121 (x + 6) S2 else some (0, S2)) (fun r S2 h2 => by rw [if_pos rfl]; exact hrec S2 h2)
  rw [if_neg hv4]
  by_cases hv5 : v = 5
  · rw [if_pos hv5]
    exact jb_bd2 (H5 _) hi (k := fun r r2 S2 => if r = r2 then rec18 0 121 (x + 6) S2 else some (0, S2)) (fun r S2 h2 => by rw [if_pos rfl]; exact hrec S2 h2)
  rw [if_neg hv5]
  by_cases hv6 : v = 6
  · rw [if_pos hv6]
    exact jb_bd2 (H6 _) hi (k := fun r r2 S2 => if r = r2 then rec18 0 121 (x + 6) S2 else some (0, S2)) (fun r S2 h2 => by rw [if_pos rfl]; exact hrec S2 h2)
  rw [if_neg hv6]
  by_cases hv7 : v = 7
  · rw [if_pos hv7]
    exact jb_bd2 (H7) hi (k := fun r r2 S2 => if r = r2 then rec18 0 121 (x + 6) S2 else some (0, S2)) (fun r S2 h2 => by rw [if_pos rfl]; exact hrec S2 h2)
  rw [if_neg hv7]
  by_cases hv8 : v = 8
  · rw [if_pos hv8]
    exact jb_bd2 (H8 _ _) hi (k := fun r r2 S2 => if r = r2 then rec18 0 121 (x + 6) S2 else some (0, S2)) (fun r S2 h2 => by rw [if_pos rfl]; exact hrec S2 h2)
  rw [if_neg hv8]
  by_cases hv9 : v = 9
  · rw [if_pos hv9]
    exact jb_bd2 (H9 _ _) hi (k := fun r r2 S2 => if r = r2 then rec18 0 121 (x + 6) S2 else some (0, S2)) (fun r S2 h2 => by rw [if_pos rfl]; exact hrec S2 h2)
  rw [if_neg hv9]
  by_cases hv10 : v = 10
  · rw [if_pos hv10]
    exact jb_bd2 (H10 _ _) hi (k := fun r r2 S2 => if r = r2 then rec18 0 121 (x + 6) S2 else some (0, S2)) (fun r S2 h2 => by rw [if_pos rfl]; exact hrec S2 h2)
  rw [if_neg hv10]
  by_cases hv11 : v = 11
  · rw [if_pos hv11]
    exact jb_bd2 (H11 _ _) hi (k := fun r r2 S2 => if r = r2 then rec18 0 121 (x + 6) S2 else some (0, S2)) (fun r S2 h2 => by rw [if_pos rfl]; exact hrec S2 h2)
  rw [if_neg hv11]
  by_cases hv12 : v = 12
  · rw [if_pos hv12]
    exact jb_bd2 (H12 _ _ _) hi (k := fun r r2 S2 => if r = r2 then rec18 0 121 (x + 6) S2 else some (0, S2)) (fun r S2 h2 => by rw [if_pos rfl]; exact hrec S2 h2)
  rw [if_neg hv12]
  by_cases hv13 : v = 13
  · rw [if_pos hv13]
    exact jb_bd2 (H13 _ _) hi (k := fun r r2 S2 => if r = r2 then rec18 0 121 (x + 6) S2 else some (0, S2)) (fun r S2 h2 => by rw [if_pos rfl]; exact hrec S2 h2)
  rw [if_neg hv13]
  by_cases hv14 : v = 14
  · rw [if_pos hv14]
    exact jb_bd2 (H14 _) hi (k := fun r r2 S2 => if r = r2 then rec18 0 121 (x + 6) S2 else some (0, S2)) (fun r S2 h2 => by rw [if_pos rfl]; exact hrec S2 h2)
  rw [if_neg hv14]
  by_cases hv15 : v = 15
  · rw [if_pos hv15]
    exact jb_bd2 (H15 _) hi (k := fun r r2 S2 => if r = r2 then rec18 0 121 (x + 6) S2 else some (0, S2)) (fun r S2 h2 => by rw [if_pos rfl]; exact hrec S2 h2)
  rw [if_neg hv15]
  by_cases hv16 : v = 16
  · rw [if_pos hv16]
    exact jb_bd2 (H16) hi (k := fun r r2 S2 => if r = r2 then rec18 0 121 (x + 6) S2 else some (0, S2)) (fun r S2 h2 => by rw [if_pos rfl]; exact hrec S2 h2)
  rw [if_neg hv16]
  by_cases hv17 : v = 17
  · rw [if_pos hv17]
    exact jb_bd2 (H17) hi (k := fun r r2 S2 => if r = r2 then rec18 0 121 (x + 6) S2 else some (0, S2)) (fun r S2 h2 => by rw [if_pos rfl]; exact hrec S2 h2)
  rw [if_neg hv17]
  by_cases hv18 : v = 18
  · rw [if_pos hv18]
    exact jb_bd2 (H18) hi (k := fun r r2 S2 => if r = r2 then rec18 0 121 (x + 6) S2 else some (0, S2)) (fun r S2 h2 => by rw [if_pos rfl]; exact hrec S2 h2)
  rw [if_neg hv18]
  by_cases hv19 : v = 19
  · rw [if_pos hv19]
    exact jb_bd2 (H19) hi (k := fun r r2 S2 => if r = r2 then rec18 0 121 (x + 6) S2 else some (0, S2)) (fun r S2 h2 => by rw [if_pos rfl]; exact hrec S2 h2)
  rw [if_neg hv19]
  by_cases hv20 : v = 20
  · rw [if_pos hv20]
    exact jb_bd2 (H20 _) hi (k := fun r r2 S2 => if r = r2 then rec18 0 121 (x + 6) S2 else some (0, S2)) (fun r S2 h2 => by rw [if_pos rfl]; exact hrec S2 h2)
  rw [if_neg hv20]
  by_cases hv21 : v = 21
  · rw [if_pos hv21]
    exact jb_bd2 (H21) hi (k := fun r r2 S2 => if r = r2 then rec18 0 121 (x + 6) S2 else some (0, S2)) (fun r S2 h2 => by rw [if_pos rfl]; exact hrec S2 h2)
  rw [if_neg hv21]
  exact hrec S hi
theorem jb_loop {zs : List Int32} (HA : jb_all Inv) (hz : zs.length ≤ 3072) : ∀ (n m : Nat) (x : Int) (S : nk_S), x = 6 * m → m + n ≥ 600 → m ≤ 513 → Inv S → ∃ R, ja_L_law_L18 zs n 0 121 x S = some R ∧ R.1 = 1 := by
  intro n
  induction n with
  | zero => intro m x S _ h1 h2; omega
  | succ n ih =>
    intro m x S hx h1 h2 hi
    show ∃ R, ja_L_law_b18 zs (ja_L_law_L18 zs n) 0 121 x S = some R ∧ R.1 = 1
    unfold ja_L_law_b18
    rw [if_pos (show zs.length < 2147483648 by omega), show nk_w ((zs.length : Int) - 6) = (zs.length : Int) - 6 from nk_w_id (by omega) (by omega)]
    by_cases hc : (zs.length : Int) - 6 < x
    · rw [if_pos hc]
      exact ⟨_, rfl, rfl⟩
    · rw [if_neg hc]
      refine jb_step HA (by omega) (by omega) hz hi (fun S2 h2 => ?_)
      exact ih (m + 1) (x + 6) S2 (by omega) (by omega) (by omega) h2
/-- the law answers 1 -/
theorem jb_law {zs : List Int32} (HA : jb_all Inv) (hz : zs.length ≤ 3072) {S : nk_S} (hi : Inv S) : ∃ S', ja_L_law zs 0 121 S = some (1, S') := by
  obtain ⟨R, h, e⟩ := jb_loop HA hz nk_big 0 0 S (by omega) (by unfold nk_big; omega) (by omega) hi
  refine ⟨R.2, ?_⟩
  unfold ja_L_law
  rw [h, ← e]
end JBL
