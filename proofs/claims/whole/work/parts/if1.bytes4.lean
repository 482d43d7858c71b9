/-! The bytes of the texts, piece 4. -/
theorem mi_s2e : ∀ k, k < 5 → ∀ j, j < mi_sn.getD (k + 16) 0 → mi_f[mi_sp (k + 16) + 4 + j]? = some (.eq (.elem (.field (mi_tm (k + 16)) "java/lang/String" "value" "[B") (.int (Int32.ofNat j))) (.int ((mi_sb.getD (k + 16) []).getD j 0))) := by decide +kernel
