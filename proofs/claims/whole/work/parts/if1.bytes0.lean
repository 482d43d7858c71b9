/-! The bytes of the texts, piece 0. -/
theorem mi_s2a : ∀ k, k < 1 → ∀ j, j < mi_sn.getD k 0 → mi_f[mi_sp k + 4 + j]? = some (.eq (.elem (.field (mi_tm k) "java/lang/String" "value" "[B") (.int (Int32.ofNat j))) (.int ((mi_sb.getD k []).getD j 0))) := by decide +kernel
