/-! The words of each hash, piece 1. -/
theorem js_w6b : ∀ k : Nat, k < 128 → (js_S k1h208).1 12 (k + 128) = hp (fun v => js_H.getD v 0) ((k + 128 : Nat) : Int) 70 := by decide +kernel
