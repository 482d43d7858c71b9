/-! The static rows. -/
def mi_tp (i : Nat) : Nat := ([58, 9, 107, 156] : List Nat).getD i 0
def mi_tl (i : Nat) : Nat := ([1296, 1088, 1302, 1382] : List Nat).getD i 0
def mi_tn (i : Nat) : String := match i with
  | 0 => "LEAVES"
  | 1 => "OPERANDS"
  | 2 => "TAKES"
  | _ => "WANTS"
def mi_tb : List (List Int32) := [[1, 1, 1, 0, 0, 2, 0, 2, 1, 1, 1, 1, 1, 1, 1, 1, 1, 1, 1, 0, 0, 0, 0, 0, 0, 0, 0, 0, 0, 0, 1, 1, 1, 1, 0, 1, 0, 1, 1, 0, 0, 0, 0, 0, 1, 0], [1, 0, 2, 2, 3, 0, 0, 0, 0, 0, 0, 0, 0, 0, 0, 0, 0, 0, 0, 4, 4, 4, 4, 4, 4, 4, 4, 4, 4, 4, 5, 6, 0, 0, 0, 8, 8, 7, 7, 8, 8, 0, 0, 0, 0, 0], [0, 0, 0, 1, 0, 1, 1, 2, 2, 2, 2, 2, 2, 2, 2, 2, 2, 2, 1, 0, 2, 2, 2, 2, 2, 2, 1, 1, 2, 2, 0, 1, 1, 2, 3, 1, 2, 1, 1, 0, 0, 1, 1, 0, 0, 1], [0, 0, 0, 4, 0, 4, 4, 68, 17, 17, 17, 17, 17, 17, 17, 17, 17, 17, 1, 0, 17, 17, 17, 17, 17, 17, 2, 2, 34, 34, 0, 1, 3, 49, 791, 5, 86, 2, 2, 0, 0, 8, 9, 0, 0, 1]]
theorem mi_t1 : ∀ i, i < 4 → mi_f[mi_tp i + 1]? = some (.arrayOf (.static "SafeCode" (mi_tn i) "[I") .int) ∧ mi_f[mi_tp i + 2]? = some (.eq (.length (.static "SafeCode" (mi_tn i) "[I")) (.int (Int32.ofNat 46))) ∧ lw_tbl[mi_tl i]? = some (.laysStatic "SafeCode" (mi_tn i) "[I") := by decide +kernel
theorem mi_t2 : ∀ i, i < 4 → ∀ j, j < 46 → mi_f[mi_tp i + 3 + j]? = some (.eq (.elem (.static "SafeCode" (mi_tn i) "[I") (.int (Int32.ofNat j))) (.int ((mi_tb.getD i []).getD j 0))) := by decide +kernel
