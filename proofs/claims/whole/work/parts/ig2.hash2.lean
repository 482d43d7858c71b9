/-! The words of each hash, piece 2. -/
theorem js_w6c : ∀ k : Nat, k < 128 → (js_S k1h208).1 12 (k + 256) = hp (fun v => js_H.getD v 0) ((k + 256 : Nat) : Int) 70 := by decide +kernel
