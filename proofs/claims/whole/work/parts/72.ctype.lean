/-! Types of tokens: the class. -/
/-- the class's number of a type: int 1, int[] 3, none -1, a class 4 and more, its array 5 and more, -2 if there is no such class -/
def tyC (ns : List (List Int)) (l : List Int) : Int := if l = fx.getD 52 [] then 1 else if l = fx.getD 54 [] then 3 else if l = fx.getD 53 [] then -1 else if shp l = 4 then (if 0 ≤ amx (l.take (l.length - 2)) ns 0 then 5 + 2 * amx (l.take (l.length - 2)) ns 0 else -2) else if 0 ≤ amx l ns 0 then 4 + 2 * amx l ns 0 else -2
section CTY
variable {S : nk_S} {tx : List (List Int)} {c Q : Nat}
theorem cw_word (hC : CF S tx c) {w v : Nat} (hw : w < 70) (hv : v < c) : ((v : Int) = (w : Int)) ↔ wd S v = fx.getD w [] := by
  obtain ⟨-, h2, -, -, -, -, h7, h8, -⟩ := hC
  rw [← h8 w hw]
  constructor
  · intro e; rw [show v = w by omega]
  · intro e; rw [h7 v w hv (by omega) e]
theorem c_typeW (hC : CF S tx c) {ns : List (List Int)} {us : List Int} (hK : cC S Q c ns us) (hA : ∀ v, v < c → shp (wd S v) = 4 → ∃ u : Nat, u < c ∧ S.1 10 v = (u : Int) ∧ wd S u = (wd S v).take ((wd S v).length - 2)) {v : Nat} (hv : v < c) (ht : isT (wd S v) = true ∨ wd S v = fx.getD 53 []) : ja_X10_typeOf 2 (v : Int) S = some (tyC ns (wd S v), S) := by
  have hns := hK.2.2.1
  have g8 := hK.2.2.2.2.2.2.2
  have i52 := cw_word hC (w := 52) (by decide) hv
  have i53 := cw_word hC (w := 53) (by decide) hv
  have i54 := cw_word hC (w := 54) (by decide) hv
  have hsh : ja_X10_hasShape 2 (v : Int) 4 S = some (bi (decide (shp (wd S v) = 4)), S) := by
    obtain ⟨h1, h2, h3, -, -, -, -, -, h9⟩ := hC
    unfold ja_X10_hasShape
    rw [if_neg (by omega), h1, if_neg (by omega), if_pos (in_i (N := 12288) (by omega)), jc_2_12, Int.toNat_natCast, h9 v hv]
    by_cases q : shp (wd S v) = 4
    · rw [if_pos q, decide_eq_true q]; rfl
    · rw [if_neg q, decide_eq_false q]; rfl
  have fin : ∀ (b : Bool) (u : Nat), u < c → shp (wd S u) = 2 → ja_X10_typeOf_b45 (bi b) 2 (u : Int) S = some (if 0 ≤ amx (wd S u) ns 0 then (if b = true then 5 else 4) + 2 * amx (wd S u) ns 0 else -2, S) := by
    intro b u hu hs
    unfold ja_X10_typeOf_b45
    rw [c_first hC hu, bd_some, g8 u hu hs]
    have hrg := amx_rg (wd S u) ns 0
    by_cases q : 0 ≤ amx (wd S u) ns 0
    · rw [if_pos q, if_pos q]
      generalize amx (wd S u) ns 0 = z at hrg q
      rw [nk_w_id (z := 2 * z) (by omega) (by omega), nk_w_id (z := 4 + 2 * z) (by omega) (by omega), nk_w_id (by omega) (by omega), nk_w_id (by omega) (by omega)]
      cases b with
      | false => rw [if_pos (show bi false = 0 from rfl)]; simp only [Bool.false_eq_true, if_false]; rw [Int.add_zero]
      | true => rw [if_neg (show ¬ bi true = 0 by decide)]; simp only [if_true]; rw [show 4 + 2 * z + 1 = 5 + 2 * z by omega]
    · rw [if_neg q, if_neg q]
  unfold ja_X10_typeOf tyC
  by_cases q1 : wd S v = fx.getD 52 []
  · rw [if_pos q1, if_pos (show (v : Int) = 52 from i52.mpr q1)]
  · rw [if_neg q1, if_neg (show ¬ (v : Int) = 52 from fun e => q1 (i52.mp e))]
    by_cases q2 : wd S v = fx.getD 54 []
    · rw [if_pos q2, if_pos (show (v : Int) = 54 from i54.mpr q2)]
    · rw [if_neg q2, if_neg (show ¬ (v : Int) = 54 from fun e => q2 (i54.mp e))]
      by_cases q3 : wd S v = fx.getD 53 []
      · rw [if_pos q3, if_pos (show (v : Int) = 53 from i53.mpr q3)]
      · rw [if_neg q3, if_neg (show ¬ (v : Int) = 53 from fun e => q3 (i53.mp e)), hsh, bd_some]
        have ht2 := (isT_iff _).mp (ht.resolve_right q3)
        by_cases q4 : shp (wd S v) = 4
        · rw [if_pos q4, decide_eq_true q4, if_neg (show ¬ bi true = 0 by decide)]
          obtain ⟨u, u1, u2, u3⟩ := hA v hv q4
          have hq := (shp_eq (wd S v)).2.2.2.1.mp q4
          have hn := (arrQ_iff.mp hq).2
          have hsu : shp (wd S u) = 2 := (shp_eq (wd S u)).2.1.mpr (by rw [u3]; exact hn)
          rw [c_first hC hv, bd_some, u2, fin true u u1 hsu, u3]
          simp only [if_true]
        · rw [if_neg q4, decide_eq_false q4, if_pos (show bi false = 0 from rfl)]
          have hs2 : shp (wd S v) = 2 := by
            rcases ht2 with h | h | h | h
            · exact absurd h q1
            · exact absurd h q2
            · exact h
            · exact absurd h q4
          have := fin false v hv hs2
          rw [show bi false = 0 from rfl] at this ⊢
          rw [this]
          simp only [Bool.false_eq_true, if_false]
end CTY
