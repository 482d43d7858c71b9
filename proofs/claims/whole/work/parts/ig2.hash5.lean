/-! The words of each hash, piece 5. -/
theorem js_w6f : ∀ k : Nat, k < 128 → (js_S k1h208).1 12 (k + 640) = hp (fun v => js_H.getD v 0) ((k + 640 : Nat) : Int) 70 := by decide +kernel
