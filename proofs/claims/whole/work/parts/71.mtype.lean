/-! Types of tokens: the reference. -/
/-- the reference's number of a type: int 0, int[] 40, a class 8 and more, its array 48 and more, -1 if there is no such class -/
def tyR (ns : List (List Int)) (l : List Int) : Int := if arE l = true then (if l.getD 0 0 = 105 then 40 else if 0 ≤ amx (l.take (l.length - 2)) ns 0 then 48 + amx (l.take (l.length - 2)) ns 0 else -1) else if l.getD 0 0 = 105 then 0 else if 0 ≤ amx l ns 0 then 8 + amx l ns 0 else -1
theorem sg_length (g : Nat → Int) (f t : Nat) : (sg g f t).length = t - f := by unfold sg; rw [List.length_map, List.length_range]
theorem sg_cut (g : Nat → Int) (f t k : Nat) (h : k ≤ t - f) : (sg g f t).take (t - f - k) = sg g f (t - k) := by
  unfold sg
  rw [← List.map_take, List.take_range, show min (t - f - k) (t - f) = t - k - f by omega]
theorem sg_0 (g : Nat → Int) (f t : Nat) (h : f < t) : (sg g f t).getD 0 0 = g f := by
  unfold sg
  rw [List.getD_eq_getElem?_getD, List.getElem?_map, List.getElem?_range (by omega)]
  rfl
section MTY
variable {S : nk_S} {tx : List (List Int)} {P : Nat}
theorem m_typeOf (hM : MW S tx) (hP : P = 122 ∨ P = 168) {ns : List (List Int)} {us : List Int} (hC : rC S tx P ns us) {i : Nat} (hi : i < tx.length) : ja_X13_typeOf 121 P (i : Int) S = some (tyR ns (tx.getD i []), S) := by
  have hT := hM.2.1
  have hns := hC.2.1
  obtain ⟨f, t, e1, e2, e3, e4, e5⟩ := hM.2.2 i (tx.getD i []) (by rw [List.getD_eq_getElem?_getD, List.getElem?_eq_getElem hi]; rfl)
  have hin : (0 : Int) ≤ (i : Int) ∧ (i : Int) < 16002 := in_i (N := 16002) (by omega)
  have hin2 : (0 : Int) ≤ (f : Int) ∧ (f : Int) < 16000 := in_i (N := 16000) (by omega)
  have h0 : (tx.getD i []).getD 0 0 = S.1 215 f := by rw [← e5]; exact sg_0 _ _ _ e3
  have hlen : (tx.getD i []).length = t - f := by rw [← e5]; exact sg_length _ _ _
  have fin : ∀ (b : Bool) (u : Nat), f ≤ u → u ≤ 16000 → ja_X13_typeOf_b27 121 P (i : Int) (bi b) (u : Int) S = some (if (tx.getD i []).getD 0 0 = 105 then (if b = true then 40 else 0) else if 0 ≤ amx (sg (S.1 215) f u) ns 0 then (if b = true then 48 else 8) + amx (sg (S.1 215) f u) ns 0 else -1, S) := by
    intro b u hu1 hu2
    unfold ja_X13_typeOf_b27
    rw [if_pos hin, jc_121_8, jc_121_6, Int.toNat_natCast, e1, if_pos hin2, Int.toNat_natCast, h0]
    by_cases q : S.1 215 f = 105
    · rw [if_pos q, if_pos q]
      cases b <;> rfl
    · rw [if_neg q, if_neg q, m_classOf hM hP hC hu1 hu2, bd_some]
      have hrg := amx_rg (sg (S.1 215) f u) ns 0
      by_cases q2 : 0 ≤ amx (sg (S.1 215) f u) ns 0
      · rw [if_pos q2, if_pos q2, nk_w_id (by omega) (by omega), nk_w_id (by omega) (by omega)]
        cases b <;> rfl
      · rw [if_neg q2, if_neg q2]
  unfold ja_X13_typeOf
  rw [m_arr hM hi, bd_some, jc_121_9, Int.toNat_natCast, e2]
  unfold tyR
  cases ha : arE (tx.getD i []) with
  | false =>
    rw [if_pos (show bi false = 0 from rfl), if_pos hin, fin false t (by omega) e4, e5]
    simp only [Bool.false_eq_true, if_false]
  | true =>
    have h2 := (arE_last ha).1
    rw [hlen] at h2
    have hs : nk_w ((t : Int) - 2) = ((t - 2 : Nat) : Int) := by
      rw [show (t : Int) - 2 = ((t - 2 : Nat) : Int) by omega]
      exact w_n0 (by omega)
    rw [if_neg (show ¬ bi true = 0 by decide), if_pos hin, hs]
    clear hs
    rw [fin true (t - 2) (by omega) (by omega), hlen]
    have e6 : (tx.getD i []).take (t - f - 2) = sg (S.1 215) f (t - 2) := by rw [← e5]; exact sg_cut _ _ _ _ (by omega)
    rw [e6]
    simp only [if_true]
end MTY
