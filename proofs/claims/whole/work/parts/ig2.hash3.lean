/-! The words of each hash, piece 3. -/
theorem js_w6d : ∀ k : Nat, k < 128 → (js_S k1h208).1 12 (k + 384) = hp (fun v => js_H.getD v 0) ((k + 384 : Nat) : Int) 70 := by decide +kernel
