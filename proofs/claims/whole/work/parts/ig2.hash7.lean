/-! The words of each hash, piece 7. -/
theorem js_w6h : ∀ k : Nat, k < 128 → (js_S k1h208).1 12 (k + 896) = hp (fun v => js_H.getD v 0) ((k + 896 : Nat) : Int) 70 := by decide +kernel
