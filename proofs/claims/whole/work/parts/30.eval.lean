-- X3_init: 158 steps
theorem ze_1 : (mi_run (fun j => mi_Gs[j]?) (mi_ev []) 300 95 (0, lv_args 0 [.ref 0], []) [.inl (3, [.null, .null, .null, .int 0, .null, .null, .null, .null, .null, .null, .int 0, .null, .int 0, .null, .null, .null, .null])] 17).isSome = true := by decide +kernel
