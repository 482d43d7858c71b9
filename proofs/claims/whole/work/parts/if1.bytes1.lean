/-! The bytes of the texts, piece 1. -/
theorem mi_s2b : ∀ k, k < 2 → ∀ j, j < mi_sn.getD (k + 1) 0 → mi_f[mi_sp (k + 1) + 4 + j]? = some (.eq (.elem (.field (mi_tm (k + 1)) "java/lang/String" "value" "[B") (.int (Int32.ofNat j))) (.int ((mi_sb.getD (k + 1) []).getD j 0))) := by decide +kernel
