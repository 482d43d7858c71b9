/-! What is known of the cells: the hashes of the words. -/
def js_H : List Int := (List.range 70).map (fun v => hx (fx.getD v []))
theorem js_Hv : ∀ v, v < 70 → hx (fx.getD v []) = js_H.getD v 0 := by decide +kernel
theorem js_w3 : ∀ w, w < 70 → 0 ≤ (js_S k1h208).1 5 w ∧ (js_S k1h208).1 5 w ≤ (js_S k1h208).1 6 w ∧ (js_S k1h208).1 6 w ≤ 360 := by decide +kernel
