/-! The words of each hash, piece 0. -/
theorem js_w6a : ∀ k : Nat, k < 128 → (js_S k1h208).1 12 k = hp (fun v => js_H.getD v 0) (k : Int) 70 := by decide +kernel
