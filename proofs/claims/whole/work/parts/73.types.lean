/-! Types of tokens: both sides' numbers of the same type. -/
/-- the class's number of a type, from the reference's -/
def cvT (r : Int) : Int := if r = 0 then 1 else if r = 40 then 3 else if r < 0 then -2 else if r < 40 then 4 + 2 * (r - 8) else 5 + 2 * (r - 48)
theorem nm2_head {l : List Int} (h : nmS l = 2) : l.getD 0 0 < 97 := by
  unfold nmS at h
  split at h
  · split at h
    · omega
    · rename_i x r _
      split at h
      · split at h
        · assumption
        · omega
      · omega
  · omega
theorem fx_sh3 : shp (fx.getD 52 []) ≠ 2 ∧ shp (fx.getD 52 []) ≠ 4 ∧ shp (fx.getD 53 []) ≠ 2 ∧ shp (fx.getD 53 []) ≠ 4 ∧ shp (fx.getD 54 []) ≠ 2 ∧ shp (fx.getD 54 []) ≠ 4 := by decide +kernel
theorem fx_int : arE (fx.getD 52 []) = false ∧ (fx.getD 52 []).getD 0 0 = 105 ∧ arE (fx.getD 54 []) = true ∧ (fx.getD 54 []).getD 0 0 = 105 ∧ ¬ fx.getD 54 [] = fx.getD 52 [] := by decide +kernel
theorem ty_cv {ns : List (List Int)} {l : List Int} (h : isT l = true) (hns : ns.length ≤ 32) : tyC ns l = cvT (tyR ns l) := by
  obtain ⟨s1, s2, s3, s4, s5, s6⟩ := fx_sh3
  obtain ⟨t1, t2, t3, t4, t5⟩ := fx_int
  rcases (isT_iff l).mp h with e | e | e | e
  · unfold tyC tyR
    rw [if_pos e, e, t1, if_neg (by decide), if_pos t2]
    rfl
  · unfold tyC tyR
    rw [e, if_neg t5, if_pos rfl, t3, if_pos rfl, if_pos t4]
    rfl
  · have n1 : ¬ l = fx.getD 52 [] := fun q => s1 (by rw [← q]; exact e)
    have n2 : ¬ l = fx.getD 54 [] := fun q => s5 (by rw [← q]; exact e)
    have n3 : ¬ l = fx.getD 53 [] := fun q => s3 (by rw [← q]; exact e)
    have hn := (shp_eq l).2.1.mp e
    have hh := nm2_head hn
    have ha : arE l = false := by
      cases c : arE l with
      | false => rfl
      | true => have := (arE_nm c).1; omega
    unfold tyC tyR
    rw [if_neg n1, if_neg n2, if_neg n3, if_neg (show ¬ shp l = 4 by omega), ha, if_neg (show ¬ false = true by decide), if_neg (show ¬ l.getD 0 0 = 105 by omega)]
    have hrg := amx_rg l ns 0
    generalize amx l ns 0 = z at hrg ⊢
    unfold cvT
    by_cases q : 0 ≤ z
    · rw [if_pos q, if_pos q, if_neg (by omega), if_neg (by omega), if_neg (by omega), if_pos (by omega)]; omega
    · rw [if_neg q, if_neg q]; rfl
  · have n1 : ¬ l = fx.getD 52 [] := fun q => s2 (by rw [← q]; exact e)
    have n2 : ¬ l = fx.getD 54 [] := fun q => s6 (by rw [← q]; exact e)
    have n3 : ¬ l = fx.getD 53 [] := fun q => s4 (by rw [← q]; exact e)
    obtain ⟨ha, hn⟩ := arrQ_iff.mp ((shp_eq l).2.2.2.1.mp e)
    have hl := (arE_last ha).1
    have hh := nm2_head hn
    have h0 : (l.take (l.length - 2)).getD 0 0 = l.getD 0 0 := by
      rw [List.getD_eq_getElem?_getD, List.getD_eq_getElem?_getD, List.getElem?_take, if_pos (by omega)]
    rw [h0] at hh
    unfold tyC tyR
    rw [if_neg n1, if_neg n2, if_neg n3, if_pos e, ha, if_pos (show true = true from rfl), if_neg (show ¬ l.getD 0 0 = 105 by omega)]
    have hrg := amx_rg (l.take (l.length - 2)) ns 0
    generalize amx (l.take (l.length - 2)) ns 0 = z at hrg ⊢
    unfold cvT
    by_cases q : 0 ≤ z
    · rw [if_pos q, if_pos q, if_neg (by omega), if_neg (by omega), if_neg (by omega), if_neg (by omega)]; omega
    · rw [if_neg q, if_neg q]; rfl
