/-! The bytes of the texts, piece 2. -/
theorem mi_s2c : ∀ k, k < 12 → ∀ j, j < mi_sn.getD (k + 3) 0 → mi_f[mi_sp (k + 3) + 4 + j]? = some (.eq (.elem (.field (mi_tm (k + 3)) "java/lang/String" "value" "[B") (.int (Int32.ofNat j))) (.int ((mi_sb.getD (k + 3) []).getD j 0))) := by decide +kernel
