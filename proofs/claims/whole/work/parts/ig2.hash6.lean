/-! The words of each hash, piece 6. -/
theorem js_w6g : ∀ k : Nat, k < 128 → (js_S k1h208).1 12 (k + 768) = hp (fun v => js_H.getD v 0) ((k + 768 : Nat) : Int) 70 := by decide +kernel
