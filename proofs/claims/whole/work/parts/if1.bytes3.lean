/-! The bytes of the texts, piece 3. -/
theorem mi_s2d : ∀ k, k < 1 → ∀ j, j < mi_sn.getD (k + 15) 0 → mi_f[mi_sp (k + 15) + 4 + j]? = some (.eq (.elem (.field (mi_tm (k + 15)) "java/lang/String" "value" "[B") (.int (Int32.ofNat j))) (.int ((mi_sb.getD (k + 15) []).getD j 0))) := by decide +kernel
