/-! The words that have one hash. -/
theorem js_w5 : ∀ w, w < 70 → (js_S k1h208).1 7 w = hp (fun v => js_H.getD v 0) (js_H.getD w 0) w := by decide +kernel
