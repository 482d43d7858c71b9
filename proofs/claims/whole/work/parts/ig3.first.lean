/-! What the constructors leave is what is known between calls. -/
theorem js_w6 : ∀ h : Nat, h < 1024 → (js_S k1h208).1 12 h = hp (fun v => js_H.getD v 0) (h : Int) 70 := by
  intro h hh
  rcases Nat.lt_or_ge h 128 with q | q
  · exact js_w6a h q
  rcases Nat.lt_or_ge h 256 with q1 | q
  · obtain ⟨k, rfl⟩ : ∃ k, h = k + 128 := ⟨h - 128, by omega⟩
    exact js_w6b k (by omega)
  rcases Nat.lt_or_ge h 384 with q2 | q
  · obtain ⟨k, rfl⟩ : ∃ k, h = k + 256 := ⟨h - 256, by omega⟩
    exact js_w6c k (by omega)
  rcases Nat.lt_or_ge h 512 with q3 | q
  · obtain ⟨k, rfl⟩ : ∃ k, h = k + 384 := ⟨h - 384, by omega⟩
    exact js_w6d k (by omega)
  rcases Nat.lt_or_ge h 640 with q4 | q
  · obtain ⟨k, rfl⟩ : ∃ k, h = k + 512 := ⟨h - 512, by omega⟩
    exact js_w6e k (by omega)
  rcases Nat.lt_or_ge h 768 with q5 | q
  · obtain ⟨k, rfl⟩ : ∃ k, h = k + 640 := ⟨h - 640, by omega⟩
    exact js_w6f k (by omega)
  rcases Nat.lt_or_ge h 896 with q6 | q
  · obtain ⟨k, rfl⟩ : ∃ k, h = k + 768 := ⟨h - 768, by omega⟩
    exact js_w6g k (by omega)
  obtain ⟨k, rfl⟩ : ∃ k, h = k + 896 := ⟨h - 896, by omega⟩
  exact js_w6h k (by omega)
theorem js_words : jv_words (js_S k1h208) := by
  refine ⟨by decide +kernel, by decide +kernel, fun w hw => ?_, js_w4, fun w hw => ?_, fun h hh => ?_, js_w7⟩
  · obtain ⟨a, b, c⟩ := js_w3 w hw
    exact ⟨((js_S k1h208).1 5 w).toNat, ((js_S k1h208).1 6 w).toNat, by omega, by omega, by omega, by omega⟩
  · rw [js_w5 w hw, js_Hv w hw]
    exact hp_congr (fun i hi => (js_Hv i (by omega)).symm)
  · rw [js_w6 h hh]
    exact hp_congr (fun i hi => (js_Hv i hi).symm)
theorem js_112 : ∀ k, (js_S k1h208).1 112 k = 0 := fun k => by
  have e : k1h208[112]? = some (.inr (1, 256, .inl [])) := rfl
  unfold js_S
  dsimp only
  rw [e]
  show (([] : List Int32).getD k 0).toInt = 0
  rw [List.getD_eq_getElem?_getD, List.getElem?_nil]
  rfl
theorem js_num : ((js_S k1h208).1 0 1 = 0 ∧ (js_S k1h208).1 121 4 = 0 ∧ (js_S k1h208).1 0 2 = 0 ∧ (js_S k1h208).1 121 5 = 0 ∧ (js_S k1h208).1 2 1 = 360 ∧ (js_S k1h208).1 2 2 = 360 ∧ (js_S k1h208).1 121 7 = 0 ∧ (js_S k1h208).1 0 7 = (js_S k1h208).1 121 12 ∧ (js_S k1h208).1 0 12 = 0 ∧ (js_S k1h208).1 121 55 = 0) ∧ ((js_S k1h208).1 113 14 = (js_S k1h208).1 121 58 ∧ (js_S k1h208).1 113 15 = (js_S k1h208).1 121 59 ∧ (js_S k1h208).1 113 16 = (js_S k1h208).1 121 60 ∧ (js_S k1h208).1 113 17 = (js_S k1h208).1 121 57 ∧ (js_S k1h208).1 113 19 = (js_S k1h208).1 121 62 ∧ (js_S k1h208).1 121 57 = 0) ∧ ((js_S k1h208).2 0 4 = 13 ∧ (js_S k1h208).2 0 5 = 49 ∧ (js_S k1h208).2 121 0 = 122 ∧ (js_S k1h208).2 121 1 = 168) ∧ ((js_S k1h208).1 100 6 = 0 ∧ (js_S k1h208).1 100 7 = 0 ∧ (js_S k1h208).1 100 8 = 0 ∧ (js_S k1h208).1 113 19 = 0 ∧ (js_S k1h208).1 0 6 = 0 ∧ (js_S k1h208).1 121 2 = 0) := by decide +kernel
theorem js_I : io_I jRest (js_S k1h208) := by
  obtain ⟨⟨a1, a2, a3, a4, a5, a6, a7, a8, a9, a10⟩, ⟨b1, b2, b3, b4, b5, b6⟩, ⟨c1, c2, c3, c4⟩, d1, d2, d3, d4, d5, d6⟩ := js_num
  refine ⟨⟨by omega, by omega, by omega, by omega, by omega, by omega, fun k hk => by omega⟩, ⟨a5, by omega, by omega, by omega, fun k hk => by omega⟩, a8, ⟨by omega, by omega, by omega, fun k hk => ?_⟩, ⟨b1, b2, b3, b4, b5, fun k hk => by omega⟩, js_words, Or.inl ⟨c1, c2⟩, Or.inl ⟨c3, c4⟩, ⟨d1, d2, d3, by rw [d4]; unfold iR; omega, fun k hk => by rw [js_112]; unfold iR; omega⟩, Or.inl ⟨d5, d6⟩⟩
  rw [js_112, if_neg (by omega)]
