/-! The words of each hash, piece 4. -/
theorem js_w6e : ∀ k : Nat, k < 128 → (js_S k1h208).1 12 (k + 512) = hp (fun v => js_H.getD v 0) ((k + 512 : Nat) : Int) 70 := by decide +kernel
