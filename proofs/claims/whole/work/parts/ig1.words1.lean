/-! The words themselves. -/
theorem js_w4 : ∀ w, w < 70 → wd (js_S k1h208) w = fx.getD w [] := by decide +kernel
