/-! The shapes of the words. -/
theorem js_w7 : ∀ w, w < 70 → (js_S k1h208).1 9 w = shp (fx.getD w []) := by decide +kernel
