/-! The cells that the constructors leave: their shapes; what is outside. -/
def ja_Tt : List nk_D := [.inl (11, [(2, 1), (0, 0), (0, 0), (2, 2), (3, 3), (3, 3), (0, 0), (0, 0), (2, 85), (2, 86), (2, 92), (2, 112), (0, 0), (2, 113)]), .inr (0, 16000), .inl (10, [(2, 3), (0, 0), (0, 0), (2, 4), (0, 0), (0, 0), (2, 5), (2, 6), (2, 7), (2, 8), (0, 0), (2, 12), (2, 9), (2, 10), (2, 11)]), .inr (0, 16512), .inr (1, 16000), .inr (1, 12288), .inr (1, 12288), .inr (1, 12288), .inr (1, 1024), .inr (0, 12288), .inr (1, 12288), .inr (1, 12288), .inr (1, 1024), .inl (3, [(2, 14), (2, 22), (2, 36), (0, 0), (2, 38), (2, 39), (2, 40), (2, 41), (2, 42), (2, 43), (0, 0), (2, 44), (0, 0), (2, 45), (2, 46), (2, 47), (2, 48)]), .inl (1, [(0, 0), (2, 15), (2, 16), (2, 17), (0, 0), (2, 18), (2, 19), (2, 20), (2, 21)]), .inr (1, 32), .inr (1, 32), .inr (1, 32), .inr (1, 48), .inr (1, 48), .inr (1, 48), .inr (1, 48), .inl (0, [(0, 0), (0, 0), (2, 23), (2, 24), (2, 25), (2, 26), (2, 27), (2, 28), (2, 29), (2, 30), (2, 31), (2, 32), (2, 33), (2, 34), (2, 35)]), .inr (1, 48), .inr (1, 48), .inr (3, 48), .inr (1, 48), .inr (1, 576), .inr (1, 48), .inr (1, 48), .inr (1, 48), .inr (1, 48), .inr (1, 48), .inr (1, 48), .inr (1, 48), .inr (1, 1536), .inl (5, [(0, 0), (2, 37)]), .inr (1, 3079), .inr (1, 1024), .inr (1, 1024), .inr (1, 1024), .inr (1, 1024), .inr (1, 1024), .inr (1, 1024), .inr (1, 54), .inr (1, 64), .inr (1, 64), .inr (1, 64), .inr (1, 64), .inl (3, [(2, 50), (2, 58), (2, 72), (0, 0), (2, 74), (2, 75), (2, 76), (2, 77), (2, 78), (2, 79), (0, 0), (2, 80), (0, 0), (2, 81), (2, 82), (2, 83), (2, 84)]), .inl (1, [(0, 0), (2, 51), (2, 52), (2, 53), (0, 0), (2, 54), (2, 55), (2, 56), (2, 57)]), .inr (1, 32), .inr (1, 32), .inr (1, 32), .inr (1, 48), .inr (1, 48), .inr (1, 48), .inr (1, 48), .inl (0, [(0, 0), (0, 0), (2, 59), (2, 60), (2, 61), (2, 62), (2, 63), (2, 64), (2, 65), (2, 66), (2, 67), (2, 68), (2, 69), (2, 70), (2, 71)]), .inr (1, 48), .inr (1, 48), .inr (3, 48), .inr (1, 48), .inr (1, 576), .inr (1, 48), .inr (1, 48), .inr (1, 48), .inr (1, 48), .inr (1, 48), .inr (1, 48), .inr (1, 48), .inr (1, 1536), .inl (5, [(0, 0), (2, 73)]), .inr (1, 3079), .inr (1, 1024), .inr (1, 1024), .inr (1, 1024), .inr (1, 1024), .inr (1, 1024), .inr (1, 1024), .inr (1, 54), .inr (1, 64), .inr (1, 64), .inr (1, 64), .inr (1, 64), .inl (6, [(2, 2), (3, 3), (0, 0), (0, 0), (0, 0)]), .inl (9, [(3, 3), (3, 1), (2, 87), (2, 88), (2, 89), (2, 90), (2, 91), (0, 0)]), .inr (1, 1024), .inr (1, 20480), .inr (3, 1024), .inr (3, 1024), .inr (1, 20), .inl (4, [(3, 3), (3, 5), (2, 93), (2, 100), (2, 107), (2, 108), (2, 109), (2, 110), (2, 111), (0, 0), (1, 0), (0, 0), (1, 0), (0, 0)]), .inl (7, [(2, 94), (2, 95), (2, 96), (2, 97), (2, 98), (2, 99), (0, 0), (0, 0)]), .inr (2, 20480), .inr (2, 20480), .inr (3, 1024), .inr (2, 16), .inr (2, 20), .inr (2, 20), .inl (8, [(2, 101), (2, 102), (2, 103), (2, 104), (2, 105), (2, 106), (1, 0), (1, 0), (1, 0)]), .inr (2, 2304), .inr (2, 48), .inr (2, 48), .inr (2, 48), .inr (3, 48), .inr (2, 48), .inr (1, 1024), .inr (2, 1024), .inr (2, 1024), .inr (2, 64), .inr (2, 48), .inr (1, 256), .inl (2, [(2, 92), (3, 3), (2, 114), (2, 115), (2, 116), (0, 0), (2, 117), (2, 118), (0, 0), (2, 119), (2, 112), (0, 0), (0, 0), (0, 0), (0, 0), (0, 0), (0, 0), (0, 0), (2, 120), (0, 0)]), .inr (2, 1280), .inr (1, 64), .inr (1, 64), .inr (1, 2000), .inr (1, 2001), .inr (1, 12000), .inr (1, 256), .inl (13, [(3, 12), (3, 12), (0, 0), (2, 214), (0, 0), (0, 0), (2, 215), (0, 0), (2, 216), (2, 217), (0, 0), (0, 0), (0, 0), (2, 218), (2, 219), (2, 220), (2, 221), (2, 222), (2, 223), (0, 0), (2, 224), (2, 225), (2, 226), (2, 227), (2, 228), (0, 0), (2, 229), (2, 230), (2, 231), (2, 232), (2, 233), (2, 234), (2, 235), (2, 236), (2, 237), (2, 238), (0, 0), (0, 0), (0, 0), (0, 0), (1, 0), (2, 239), (2, 240), (2, 241), (2, 242), (2, 243), (2, 244), (2, 245), (2, 246), (2, 247), (2, 248), (2, 249), (0, 0), (0, 0), (0, 0), (0, 0), (0, 0), (0, 0), (0, 0), (0, 0), (0, 0), (0, 0), (0, 0), (0, 0)]), .inl (12, [(0, 0), (0, 0), (0, 0), (0, 0), (0, 0), (0, 0), (0, 0), (0, 0), (2, 123), (2, 124), (2, 125), (2, 126), (2, 127), (2, 128), (2, 129), (2, 130), (2, 131), (2, 132), (2, 133), (2, 134), (2, 135), (2, 136), (2, 137), (2, 138), (2, 139), (2, 140), (2, 141), (2, 142), (2, 143), (2, 144), (2, 145), (2, 146), (2, 147), (2, 148), (2, 149), (2, 150), (2, 151), (2, 152), (2, 153), (2, 154), (2, 155), (2, 156), (2, 157), (2, 158), (2, 159), (2, 160), (2, 161), (2, 162), (2, 163), (2, 164), (2, 165), (2, 166), (2, 167)]), .inr (1, 32), .inr (1, 32), .inr (1, 48), .inr (1, 48), .inr (1, 48), .inr (1, 48), .inr (3, 48), .inr (1, 48), .inr (1, 576), .inr (1, 48), .inr (1, 48), .inr (1, 48), .inr (1, 48), .inr (1, 1536), .inr (1, 1024), .inr (1, 1024), .inr (1, 1024), .inr (1, 1024), .inr (1, 1024), .inr (1, 54), .inr (1, 64), .inr (1, 64), .inr (1, 64), .inr (1, 64), .inr (1, 64), .inr (1, 3079), .inr (3, 1024), .inr (0, 20480), .inr (1, 20480), .inr (1, 20480), .inr (2, 20480), .inr (0, 20480), .inr (1, 20480), .inr (1, 20480), .inr (1, 20480), .inr (1, 20480), .inr (1, 1024), .inr (2, 1024), .inr (0, 3324), .inr (1, 3324), .inr (1, 3324), .inr (2, 3324), .inr (3, 48), .inr (3, 48), .inr (2, 48), .inl (12, [(0, 0), (0, 0), (0, 0), (0, 0), (0, 0), (0, 0), (0, 0), (0, 0), (2, 169), (2, 170), (2, 171), (2, 172), (2, 173), (2, 174), (2, 175), (2, 176), (2, 177), (2, 178), (2, 179), (2, 180), (2, 181), (2, 182), (2, 183), (2, 184), (2, 185), (2, 186), (2, 187), (2, 188), (2, 189), (2, 190), (2, 191), (2, 192), (2, 193), (2, 194), (2, 195), (2, 196), (2, 197), (2, 198), (2, 199), (2, 200), (2, 201), (2, 202), (2, 203), (2, 204), (2, 205), (2, 206), (2, 207), (2, 208), (2, 209), (2, 210), (2, 211), (2, 212), (2, 213)]), .inr (1, 32), .inr (1, 32), .inr (1, 48), .inr (1, 48), .inr (1, 48), .inr (1, 48), .inr (3, 48), .inr (1, 48), .inr (1, 576), .inr (1, 48), .inr (1, 48), .inr (1, 48), .inr (1, 48), .inr (1, 1536), .inr (1, 1024), .inr (1, 1024), .inr (1, 1024), .inr (1, 1024), .inr (1, 1024), .inr (1, 54), .inr (1, 64), .inr (1, 64), .inr (1, 64), .inr (1, 64), .inr (1, 64), .inr (1, 3079), .inr (3, 1024), .inr (0, 20480), .inr (1, 20480), .inr (1, 20480), .inr (2, 20480), .inr (0, 20480), .inr (1, 20480), .inr (1, 20480), .inr (1, 20480), .inr (1, 20480), .inr (1, 1024), .inr (2, 1024), .inr (0, 3324), .inr (1, 3324), .inr (1, 3324), .inr (2, 3324), .inr (3, 48), .inr (3, 48), .inr (2, 48), .inr (0, 16000), .inr (0, 16000), .inr (1, 16002), .inr (1, 16002), .inr (1, 32), .inr (1, 48), .inr (1, 48), .inr (1, 48), .inr (1, 16000), .inr (1, 16000), .inr (1, 1024), .inr (1, 1024), .inr (3, 1024), .inr (1, 20480), .inr (1, 24), .inr (0, 24), .inr (1, 24), .inr (1, 24), .inr (2, 24), .inr (1, 24), .inr (1, 24), .inr (1, 24), .inr (1, 24), .inr (1, 24), .inr (3, 1024), .inr (2, 768), .inr (2, 512), .inr (1, 64), .inr (1, 64), .inr (1, 2000), .inr (1, 2000), .inr (1, 2000), .inr (1, 2000), .inr (2, 12000), .inr (1, 256), .inr (1, 256)]
def ja_F : List (List (Nat × Nat × Nat)) := [[(0, 0, 0), (0, 0, 0), (4, 1, 48), (4, 1, 48), (4, 3, 48), (4, 1, 48), (4, 1, 576), (4, 1, 48), (4, 1, 48), (4, 1, 48), (4, 1, 48), (4, 1, 48), (4, 1, 48), (4, 1, 48), (4, 1, 1536)], [(0, 0, 0), (4, 1, 32), (4, 1, 32), (4, 1, 32), (0, 0, 0), (4, 1, 48), (4, 1, 48), (4, 1, 48), (4, 1, 48)], [(2, 4, 0), (3, 3, 0), (4, 2, 1280), (4, 1, 64), (4, 1, 64), (0, 0, 0), (4, 1, 2000), (4, 1, 2001), (0, 0, 0), (4, 1, 12000), (4, 1, 256), (0, 0, 0), (0, 0, 0), (0, 0, 0), (0, 0, 0), (0, 0, 0), (0, 0, 0), (0, 0, 0), (4, 1, 256), (0, 0, 0)], [(2, 1, 0), (2, 0, 0), (2, 5, 0), (0, 0, 0), (4, 1, 1024), (4, 1, 1024), (4, 1, 1024), (4, 1, 1024), (4, 1, 1024), (4, 1, 1024), (0, 0, 0), (4, 1, 54), (0, 0, 0), (4, 1, 64), (4, 1, 64), (4, 1, 64), (4, 1, 64)], [(3, 3, 0), (3, 5, 0), (2, 7, 0), (2, 8, 0), (4, 1, 1024), (4, 2, 1024), (4, 2, 1024), (4, 2, 64), (4, 2, 48), (0, 0, 0), (1, 0, 0), (0, 0, 0), (1, 0, 0), (0, 0, 0)], [(0, 0, 0), (4, 1, 3079)], [(2, 10, 0), (3, 3, 0), (0, 0, 0), (0, 0, 0), (0, 0, 0)], [(4, 2, 20480), (4, 2, 20480), (4, 3, 1024), (4, 2, 16), (4, 2, 20), (4, 2, 20), (0, 0, 0), (0, 0, 0)], [(4, 2, 2304), (4, 2, 48), (4, 2, 48), (4, 2, 48), (4, 3, 48), (4, 2, 48), (1, 0, 0), (1, 0, 0), (1, 0, 0)], [(3, 3, 0), (3, 1, 0), (4, 1, 1024), (4, 1, 20480), (4, 3, 1024), (4, 3, 1024), (4, 1, 20), (0, 0, 0)], [(4, 0, 16512), (0, 0, 0), (0, 0, 0), (4, 1, 16000), (0, 0, 0), (0, 0, 0), (4, 1, 12288), (4, 1, 12288), (4, 1, 12288), (4, 1, 1024), (0, 0, 0), (4, 1, 1024), (4, 0, 12288), (4, 1, 12288), (4, 1, 12288)], [(4, 0, 16000), (0, 0, 0), (0, 0, 0), (2, 10, 0), (3, 3, 0), (3, 3, 0), (0, 0, 0), (0, 0, 0), (2, 6, 0), (2, 9, 0), (2, 4, 0), (4, 1, 256), (0, 0, 0), (2, 2, 0)], [(0, 0, 0), (0, 0, 0), (0, 0, 0), (0, 0, 0), (0, 0, 0), (0, 0, 0), (0, 0, 0), (0, 0, 0), (4, 1, 32), (4, 1, 32), (4, 1, 48), (4, 1, 48), (4, 1, 48), (4, 1, 48), (4, 3, 48), (4, 1, 48), (4, 1, 576), (4, 1, 48), (4, 1, 48), (4, 1, 48), (4, 1, 48), (4, 1, 1536), (4, 1, 1024), (4, 1, 1024), (4, 1, 1024), (4, 1, 1024), (4, 1, 1024), (4, 1, 54), (4, 1, 64), (4, 1, 64), (4, 1, 64), (4, 1, 64), (4, 1, 64), (4, 1, 3079), (4, 3, 1024), (4, 0, 20480), (4, 1, 20480), (4, 1, 20480), (4, 2, 20480), (4, 0, 20480), (4, 1, 20480), (4, 1, 20480), (4, 1, 20480), (4, 1, 20480), (4, 1, 1024), (4, 2, 1024), (4, 0, 3324), (4, 1, 3324), (4, 1, 3324), (4, 2, 3324), (4, 3, 48), (4, 3, 48), (4, 2, 48)], [(3, 12, 0), (3, 12, 0), (0, 0, 0), (4, 0, 16000), (0, 0, 0), (0, 0, 0), (4, 0, 16000), (0, 0, 0), (4, 1, 16002), (4, 1, 16002), (0, 0, 0), (0, 0, 0), (0, 0, 0), (4, 1, 32), (4, 1, 48), (4, 1, 48), (4, 1, 48), (4, 1, 16000), (4, 1, 16000), (0, 0, 0), (4, 1, 1024), (4, 1, 1024), (4, 3, 1024), (4, 1, 20480), (4, 1, 24), (0, 0, 0), (4, 0, 24), (4, 1, 24), (4, 1, 24), (4, 2, 24), (4, 1, 24), (4, 1, 24), (4, 1, 24), (4, 1, 24), (4, 1, 24), (4, 3, 1024), (0, 0, 0), (0, 0, 0), (0, 0, 0), (0, 0, 0), (1, 0, 0), (4, 2, 768), (4, 2, 512), (4, 1, 64), (4, 1, 64), (4, 1, 2000), (4, 1, 2000), (4, 1, 2000), (4, 1, 2000), (4, 2, 12000), (4, 1, 256), (4, 1, 256), (0, 0, 0), (0, 0, 0), (0, 0, 0), (0, 0, 0), (0, 0, 0), (0, 0, 0), (0, 0, 0), (0, 0, 0), (0, 0, 0), (0, 0, 0), (0, 0, 0), (0, 0, 0)]]
theorem ja_okT : nk_okT ja_Tt ja_F = true := by decide +kernel
theorem ja_Tpos : 0 < ja_Tt.length := by decide +kernel
abbrev ja_c (a k : Nat) : Nat := nk_cr ja_Tt a k
abbrev mi_Γ : Nat → Option mi_Me := fun j => mi_Gs[j]?
/-- the elements of a row outside -/
def ja_ob (k : Nat) : List Int32 := match mi_e1.find? (fun q => q.1 == k) with
  | some q => q.2.2
  | none => []
/-- a text -/
def ja_tx (zs : List Int32) (k : Nat) : Prop := mi_os (mi_ev zs) k = some (k + 1) ∧ mi_oa (mi_ev zs) (k + 1) = some (0, ja_ob (k + 1))
theorem ja_tx1 (zs : List Int32) : ja_tx zs 1 := ⟨rfl, rfl⟩
theorem ja_tx3 (zs : List Int32) : ja_tx zs 3 := ⟨rfl, rfl⟩
theorem ja_tx5 (zs : List Int32) : ja_tx zs 5 := ⟨rfl, rfl⟩
theorem ja_tx7 (zs : List Int32) : ja_tx zs 7 := ⟨rfl, rfl⟩
theorem ja_tx9 (zs : List Int32) : ja_tx zs 9 := ⟨rfl, rfl⟩
theorem ja_tx11 (zs : List Int32) : ja_tx zs 11 := ⟨rfl, rfl⟩
theorem ja_tx13 (zs : List Int32) : ja_tx zs 13 := ⟨rfl, rfl⟩
theorem ja_tx15 (zs : List Int32) : ja_tx zs 15 := ⟨rfl, rfl⟩
theorem ja_tx17 (zs : List Int32) : ja_tx zs 17 := ⟨rfl, rfl⟩
theorem ja_tx19 (zs : List Int32) : ja_tx zs 19 := ⟨rfl, rfl⟩
theorem ja_tx21 (zs : List Int32) : ja_tx zs 21 := ⟨rfl, rfl⟩
theorem ja_tx23 (zs : List Int32) : ja_tx zs 23 := ⟨rfl, rfl⟩
theorem ja_tx25 (zs : List Int32) : ja_tx zs 25 := ⟨rfl, rfl⟩
theorem ja_tx27 (zs : List Int32) : ja_tx zs 27 := ⟨rfl, rfl⟩
theorem ja_tx29 (zs : List Int32) : ja_tx zs 29 := ⟨rfl, rfl⟩
theorem ja_tx31 (zs : List Int32) : ja_tx zs 31 := ⟨rfl, rfl⟩
theorem ja_tx33 (zs : List Int32) : ja_tx zs 33 := ⟨rfl, rfl⟩
theorem ja_tx35 (zs : List Int32) : ja_tx zs 35 := ⟨rfl, rfl⟩
theorem ja_tx37 (zs : List Int32) : ja_tx zs 37 := ⟨rfl, rfl⟩
theorem ja_tx39 (zs : List Int32) : ja_tx zs 39 := ⟨rfl, rfl⟩
theorem ja_tx41 (zs : List Int32) : ja_tx zs 41 := ⟨rfl, rfl⟩
set_option maxRecDepth 100000 in
theorem mJ_0 : mi_Γ 0 = some mG_0 := rfl
set_option maxRecDepth 100000 in
theorem mJ_1 : mi_Γ 1 = some mG_1 := rfl
set_option maxRecDepth 100000 in
theorem mJ_2 : mi_Γ 2 = some mG_2 := rfl
set_option maxRecDepth 100000 in
theorem mJ_3 : mi_Γ 3 = some mG_3 := rfl
set_option maxRecDepth 100000 in
theorem mJ_4 : mi_Γ 4 = some mG_4 := rfl
set_option maxRecDepth 100000 in
theorem mJ_5 : mi_Γ 5 = some mG_5 := rfl
set_option maxRecDepth 100000 in
theorem mJ_6 : mi_Γ 6 = some mG_6 := rfl
set_option maxRecDepth 100000 in
theorem mJ_7 : mi_Γ 7 = some mG_7 := rfl
set_option maxRecDepth 100000 in
theorem mJ_8 : mi_Γ 8 = some mG_8 := rfl
set_option maxRecDepth 100000 in
theorem mJ_9 : mi_Γ 9 = some mG_9 := rfl
set_option maxRecDepth 100000 in
theorem mJ_10 : mi_Γ 10 = some mG_10 := rfl
set_option maxRecDepth 100000 in
theorem mJ_11 : mi_Γ 11 = some mG_11 := rfl
set_option maxRecDepth 100000 in
theorem mJ_12 : mi_Γ 12 = some mG_12 := rfl
set_option maxRecDepth 100000 in
theorem mJ_13 : mi_Γ 13 = some mG_13 := rfl
set_option maxRecDepth 100000 in
theorem mJ_14 : mi_Γ 14 = some mG_14 := rfl
set_option maxRecDepth 100000 in
theorem mJ_15 : mi_Γ 15 = some mG_15 := rfl
set_option maxRecDepth 100000 in
theorem mJ_16 : mi_Γ 16 = some mG_16 := rfl
set_option maxRecDepth 100000 in
theorem mJ_17 : mi_Γ 17 = some mG_17 := rfl
set_option maxRecDepth 100000 in
theorem mJ_18 : mi_Γ 18 = some mG_18 := rfl
set_option maxRecDepth 100000 in
theorem mJ_19 : mi_Γ 19 = some mG_19 := rfl
set_option maxRecDepth 100000 in
theorem mJ_20 : mi_Γ 20 = some mG_20 := rfl
set_option maxRecDepth 100000 in
theorem mJ_21 : mi_Γ 21 = some mG_21 := rfl
set_option maxRecDepth 100000 in
theorem mJ_22 : mi_Γ 22 = some mG_22 := rfl
set_option maxRecDepth 100000 in
theorem mJ_23 : mi_Γ 23 = some mG_23 := rfl
set_option maxRecDepth 100000 in
theorem mJ_24 : mi_Γ 24 = some mG_24 := rfl
set_option maxRecDepth 100000 in
theorem mJ_25 : mi_Γ 25 = some mG_25 := rfl
set_option maxRecDepth 100000 in
theorem mJ_26 : mi_Γ 26 = some mG_26 := rfl
set_option maxRecDepth 100000 in
theorem mJ_27 : mi_Γ 27 = some mG_27 := rfl
set_option maxRecDepth 100000 in
theorem mJ_28 : mi_Γ 28 = some mG_28 := rfl
set_option maxRecDepth 100000 in
theorem mJ_29 : mi_Γ 29 = some mG_29 := rfl
set_option maxRecDepth 100000 in
theorem mJ_30 : mi_Γ 30 = some mG_30 := rfl
set_option maxRecDepth 100000 in
theorem mJ_31 : mi_Γ 31 = some mG_31 := rfl
set_option maxRecDepth 100000 in
theorem mJ_32 : mi_Γ 32 = some mG_32 := rfl
set_option maxRecDepth 100000 in
theorem mJ_33 : mi_Γ 33 = some mG_33 := rfl
set_option maxRecDepth 100000 in
theorem mJ_34 : mi_Γ 34 = some mG_34 := rfl
set_option maxRecDepth 100000 in
theorem mJ_35 : mi_Γ 35 = some mG_35 := rfl
set_option maxRecDepth 100000 in
theorem mJ_36 : mi_Γ 36 = some mG_36 := rfl
set_option maxRecDepth 100000 in
theorem mJ_37 : mi_Γ 37 = some mG_37 := rfl
set_option maxRecDepth 100000 in
theorem mJ_38 : mi_Γ 38 = some mG_38 := rfl
set_option maxRecDepth 100000 in
theorem mJ_39 : mi_Γ 39 = some mG_39 := rfl
set_option maxRecDepth 100000 in
theorem mJ_40 : mi_Γ 40 = some mG_40 := rfl
set_option maxRecDepth 100000 in
theorem mJ_41 : mi_Γ 41 = some mG_41 := rfl
set_option maxRecDepth 100000 in
theorem mJ_42 : mi_Γ 42 = some mG_42 := rfl
set_option maxRecDepth 100000 in
theorem mJ_43 : mi_Γ 43 = some mG_43 := rfl
set_option maxRecDepth 100000 in
theorem mJ_44 : mi_Γ 44 = some mG_44 := rfl
set_option maxRecDepth 100000 in
theorem mJ_45 : mi_Γ 45 = some mG_45 := rfl
set_option maxRecDepth 100000 in
theorem mJ_46 : mi_Γ 46 = some mG_46 := rfl
set_option maxRecDepth 100000 in
theorem mJ_47 : mi_Γ 47 = some mG_47 := rfl
set_option maxRecDepth 100000 in
theorem mJ_48 : mi_Γ 48 = some mG_48 := rfl
set_option maxRecDepth 100000 in
theorem mJ_49 : mi_Γ 49 = some mG_49 := rfl
set_option maxRecDepth 100000 in
theorem mJ_50 : mi_Γ 50 = some mG_50 := rfl
set_option maxRecDepth 100000 in
theorem mJ_51 : mi_Γ 51 = some mG_51 := rfl
set_option maxRecDepth 100000 in
theorem mJ_52 : mi_Γ 52 = some mG_52 := rfl
set_option maxRecDepth 100000 in
theorem mJ_53 : mi_Γ 53 = some mG_53 := rfl
set_option maxRecDepth 100000 in
theorem mJ_54 : mi_Γ 54 = some mG_54 := rfl
set_option maxRecDepth 100000 in
theorem mJ_55 : mi_Γ 55 = some mG_55 := rfl
set_option maxRecDepth 100000 in
theorem mJ_56 : mi_Γ 56 = some mG_56 := rfl
set_option maxRecDepth 100000 in
theorem mJ_57 : mi_Γ 57 = some mG_57 := rfl
set_option maxRecDepth 100000 in
theorem mJ_58 : mi_Γ 58 = some mG_58 := rfl
set_option maxRecDepth 100000 in
theorem mJ_59 : mi_Γ 59 = some mG_59 := rfl
set_option maxRecDepth 100000 in
theorem mJ_60 : mi_Γ 60 = some mG_60 := rfl
set_option maxRecDepth 100000 in
theorem mJ_61 : mi_Γ 61 = some mG_61 := rfl
set_option maxRecDepth 100000 in
theorem mJ_62 : mi_Γ 62 = some mG_62 := rfl
set_option maxRecDepth 100000 in
theorem mJ_63 : mi_Γ 63 = some mG_63 := rfl
set_option maxRecDepth 100000 in
theorem mJ_64 : mi_Γ 64 = some mG_64 := rfl
set_option maxRecDepth 100000 in
theorem mJ_65 : mi_Γ 65 = some mG_65 := rfl
set_option maxRecDepth 100000 in
theorem mJ_66 : mi_Γ 66 = some mG_66 := rfl
set_option maxRecDepth 100000 in
theorem mJ_67 : mi_Γ 67 = some mG_67 := rfl
set_option maxRecDepth 100000 in
theorem mJ_68 : mi_Γ 68 = some mG_68 := rfl
set_option maxRecDepth 100000 in
theorem mJ_69 : mi_Γ 69 = some mG_69 := rfl
set_option maxRecDepth 100000 in
theorem mJ_70 : mi_Γ 70 = some mG_70 := rfl
set_option maxRecDepth 100000 in
theorem mJ_71 : mi_Γ 71 = some mG_71 := rfl
set_option maxRecDepth 100000 in
theorem mJ_72 : mi_Γ 72 = some mG_72 := rfl
set_option maxRecDepth 100000 in
theorem mJ_73 : mi_Γ 73 = some mG_73 := rfl
set_option maxRecDepth 100000 in
theorem mJ_74 : mi_Γ 74 = some mG_74 := rfl
set_option maxRecDepth 100000 in
theorem mJ_75 : mi_Γ 75 = some mG_75 := rfl
set_option maxRecDepth 100000 in
theorem mJ_76 : mi_Γ 76 = some mG_76 := rfl
set_option maxRecDepth 100000 in
theorem mJ_77 : mi_Γ 77 = some mG_77 := rfl
set_option maxRecDepth 100000 in
theorem mJ_78 : mi_Γ 78 = some mG_78 := rfl
set_option maxRecDepth 100000 in
theorem mJ_79 : mi_Γ 79 = some mG_79 := rfl
set_option maxRecDepth 100000 in
theorem mJ_80 : mi_Γ 80 = some mG_80 := rfl
set_option maxRecDepth 100000 in
theorem mJ_81 : mi_Γ 81 = some mG_81 := rfl
set_option maxRecDepth 100000 in
theorem mJ_82 : mi_Γ 82 = some mG_82 := rfl
set_option maxRecDepth 100000 in
theorem mJ_83 : mi_Γ 83 = some mG_83 := rfl
set_option maxRecDepth 100000 in
theorem mJ_84 : mi_Γ 84 = some mG_84 := rfl
set_option maxRecDepth 100000 in
theorem mJ_85 : mi_Γ 85 = some mG_85 := rfl
set_option maxRecDepth 100000 in
theorem mJ_86 : mi_Γ 86 = some mG_86 := rfl
set_option maxRecDepth 100000 in
theorem mJ_87 : mi_Γ 87 = some mG_87 := rfl
set_option maxRecDepth 100000 in
theorem mJ_88 : mi_Γ 88 = some mG_88 := rfl
set_option maxRecDepth 100000 in
theorem mJ_89 : mi_Γ 89 = some mG_89 := rfl
set_option maxRecDepth 100000 in
theorem mJ_90 : mi_Γ 90 = some mG_90 := rfl
set_option maxRecDepth 100000 in
theorem mJ_91 : mi_Γ 91 = some mG_91 := rfl
set_option maxRecDepth 100000 in
theorem mJ_92 : mi_Γ 92 = some mG_92 := rfl
set_option maxRecDepth 100000 in
theorem mJ_93 : mi_Γ 93 = some mG_93 := rfl
set_option maxRecDepth 100000 in
theorem mJ_94 : mi_Γ 94 = some mG_94 := rfl
set_option maxRecDepth 100000 in
theorem mJ_95 : mi_Γ 95 = some mG_95 := rfl
set_option maxRecDepth 100000 in
theorem mJ_96 : mi_Γ 96 = some mG_96 := rfl
set_option maxRecDepth 100000 in
theorem mJ_97 : mi_Γ 97 = some mG_97 := rfl
set_option maxRecDepth 100000 in
theorem mJ_98 : mi_Γ 98 = some mG_98 := rfl
set_option maxRecDepth 100000 in
theorem mJ_99 : mi_Γ 99 = some mG_99 := rfl
set_option maxRecDepth 100000 in
theorem mJ_100 : mi_Γ 100 = some mG_100 := rfl
set_option maxRecDepth 100000 in
theorem mJ_101 : mi_Γ 101 = some mG_101 := rfl
set_option maxRecDepth 100000 in
theorem mJ_102 : mi_Γ 102 = some mG_102 := rfl
set_option maxRecDepth 100000 in
theorem mJ_103 : mi_Γ 103 = some mG_103 := rfl
set_option maxRecDepth 100000 in
theorem mJ_104 : mi_Γ 104 = some mG_104 := rfl
set_option maxRecDepth 100000 in
theorem mJ_105 : mi_Γ 105 = some mG_105 := rfl
set_option maxRecDepth 100000 in
theorem mJ_106 : mi_Γ 106 = some mG_106 := rfl
set_option maxRecDepth 100000 in
theorem mJ_107 : mi_Γ 107 = some mG_107 := rfl
set_option maxRecDepth 100000 in
theorem mJ_108 : mi_Γ 108 = some mG_108 := rfl
set_option maxRecDepth 100000 in
theorem mJ_109 : mi_Γ 109 = some mG_109 := rfl
set_option maxRecDepth 100000 in
theorem mJ_110 : mi_Γ 110 = some mG_110 := rfl
set_option maxRecDepth 100000 in
theorem mJ_111 : mi_Γ 111 = some mG_111 := rfl
set_option maxRecDepth 100000 in
theorem mJ_112 : mi_Γ 112 = some mG_112 := rfl
set_option maxRecDepth 100000 in
theorem mJ_113 : mi_Γ 113 = some mG_113 := rfl
set_option maxRecDepth 100000 in
theorem mJ_114 : mi_Γ 114 = some mG_114 := rfl
set_option maxRecDepth 100000 in
theorem mJ_115 : mi_Γ 115 = some mG_115 := rfl
set_option maxRecDepth 100000 in
theorem mJ_116 : mi_Γ 116 = some mG_116 := rfl
set_option maxRecDepth 100000 in
theorem mJ_117 : mi_Γ 117 = some mG_117 := rfl
set_option maxRecDepth 100000 in
theorem mJ_118 : mi_Γ 118 = some mG_118 := rfl
set_option maxRecDepth 100000 in
theorem mJ_119 : mi_Γ 119 = some mG_119 := rfl
set_option maxRecDepth 100000 in
theorem mJ_120 : mi_Γ 120 = some mG_120 := rfl
set_option maxRecDepth 100000 in
theorem mJ_121 : mi_Γ 121 = some mG_121 := rfl
set_option maxRecDepth 100000 in
theorem mJ_122 : mi_Γ 122 = some mG_122 := rfl
set_option maxRecDepth 100000 in
theorem mJ_123 : mi_Γ 123 = some mG_123 := rfl
set_option maxRecDepth 100000 in
theorem mJ_124 : mi_Γ 124 = some mG_124 := rfl
set_option maxRecDepth 100000 in
theorem mJ_125 : mi_Γ 125 = some mG_125 := rfl
set_option maxRecDepth 100000 in
theorem mJ_126 : mi_Γ 126 = some mG_126 := rfl
set_option maxRecDepth 100000 in
theorem mJ_127 : mi_Γ 127 = some mG_127 := rfl
set_option maxRecDepth 100000 in
theorem mJ_128 : mi_Γ 128 = some mG_128 := rfl
set_option maxRecDepth 100000 in
theorem mJ_129 : mi_Γ 129 = some mG_129 := rfl
set_option maxRecDepth 100000 in
theorem mJ_130 : mi_Γ 130 = some mG_130 := rfl
set_option maxRecDepth 100000 in
theorem mJ_131 : mi_Γ 131 = some mG_131 := rfl
set_option maxRecDepth 100000 in
theorem mJ_132 : mi_Γ 132 = some mG_132 := rfl
set_option maxRecDepth 100000 in
theorem mJ_133 : mi_Γ 133 = some mG_133 := rfl
set_option maxRecDepth 100000 in
theorem mJ_134 : mi_Γ 134 = some mG_134 := rfl
set_option maxRecDepth 100000 in
theorem mJ_135 : mi_Γ 135 = some mG_135 := rfl
set_option maxRecDepth 100000 in
theorem mJ_136 : mi_Γ 136 = some mG_136 := rfl
set_option maxRecDepth 100000 in
theorem mJ_137 : mi_Γ 137 = some mG_137 := rfl
set_option maxRecDepth 100000 in
theorem mJ_138 : mi_Γ 138 = some mG_138 := rfl
set_option maxRecDepth 100000 in
theorem mJ_139 : mi_Γ 139 = some mG_139 := rfl
set_option maxRecDepth 100000 in
theorem mJ_140 : mi_Γ 140 = some mG_140 := rfl
set_option maxRecDepth 100000 in
theorem mJ_141 : mi_Γ 141 = some mG_141 := rfl
set_option maxRecDepth 100000 in
theorem mJ_142 : mi_Γ 142 = some mG_142 := rfl
set_option maxRecDepth 100000 in
theorem mJ_143 : mi_Γ 143 = some mG_143 := rfl
set_option maxRecDepth 100000 in
theorem mJ_144 : mi_Γ 144 = some mG_144 := rfl
set_option maxRecDepth 100000 in
theorem mJ_145 : mi_Γ 145 = some mG_145 := rfl
set_option maxRecDepth 100000 in
theorem mJ_146 : mi_Γ 146 = some mG_146 := rfl
set_option maxRecDepth 100000 in
theorem mJ_147 : mi_Γ 147 = some mG_147 := rfl
set_option maxRecDepth 100000 in
theorem mJ_148 : mi_Γ 148 = some mG_148 := rfl
set_option maxRecDepth 100000 in
theorem mJ_149 : mi_Γ 149 = some mG_149 := rfl
set_option maxRecDepth 100000 in
theorem mJ_150 : mi_Γ 150 = some mG_150 := rfl
set_option maxRecDepth 100000 in
theorem mJ_151 : mi_Γ 151 = some mG_151 := rfl
set_option maxRecDepth 100000 in
theorem mJ_152 : mi_Γ 152 = some mG_152 := rfl
set_option maxRecDepth 100000 in
theorem mJ_153 : mi_Γ 153 = some mG_153 := rfl
set_option maxRecDepth 100000 in
theorem mJ_154 : mi_Γ 154 = some mG_154 := rfl
set_option maxRecDepth 100000 in
theorem mJ_155 : mi_Γ 155 = some mG_155 := rfl
set_option maxRecDepth 100000 in
theorem mJ_156 : mi_Γ 156 = some mG_156 := rfl
set_option maxRecDepth 100000 in
theorem mJ_157 : mi_Γ 157 = some mG_157 := rfl
set_option maxRecDepth 100000 in
theorem mJ_158 : mi_Γ 158 = some mG_158 := rfl
set_option maxRecDepth 100000 in
theorem mJ_159 : mi_Γ 159 = some mG_159 := rfl
set_option maxRecDepth 100000 in
theorem mJ_160 : mi_Γ 160 = some mG_160 := rfl
set_option maxRecDepth 100000 in
theorem mJ_161 : mi_Γ 161 = some mG_161 := rfl
set_option maxRecDepth 100000 in
theorem mJ_162 : mi_Γ 162 = some mG_162 := rfl
set_option maxRecDepth 100000 in
theorem mJ_163 : mi_Γ 163 = some mG_163 := rfl
set_option maxRecDepth 100000 in
theorem mJ_164 : mi_Γ 164 = some mG_164 := rfl
set_option maxRecDepth 100000 in
theorem mJ_165 : mi_Γ 165 = some mG_165 := rfl
set_option maxRecDepth 100000 in
theorem mJ_166 : mi_Γ 166 = some mG_166 := rfl
set_option maxRecDepth 100000 in
theorem mJ_167 : mi_Γ 167 = some mG_167 := rfl
set_option maxRecDepth 100000 in
theorem mJ_168 : mi_Γ 168 = some mG_168 := rfl
set_option maxRecDepth 100000 in
theorem mJ_169 : mi_Γ 169 = some mG_169 := rfl
set_option maxRecDepth 100000 in
theorem mJ_170 : mi_Γ 170 = some mG_170 := rfl
set_option maxRecDepth 100000 in
theorem mJ_171 : mi_Γ 171 = some mG_171 := rfl
set_option maxRecDepth 100000 in
theorem mJ_172 : mi_Γ 172 = some mG_172 := rfl
set_option maxRecDepth 100000 in
theorem mJ_173 : mi_Γ 173 = some mG_173 := rfl
set_option maxRecDepth 100000 in
theorem mJ_174 : mi_Γ 174 = some mG_174 := rfl
set_option maxRecDepth 100000 in
theorem mJ_175 : mi_Γ 175 = some mG_175 := rfl
set_option maxRecDepth 100000 in
theorem mJ_176 : mi_Γ 176 = some mG_176 := rfl
set_option maxRecDepth 100000 in
theorem mJ_177 : mi_Γ 177 = some mG_177 := rfl
set_option maxRecDepth 100000 in
theorem mJ_178 : mi_Γ 178 = some mG_178 := rfl
set_option maxRecDepth 100000 in
theorem mJ_179 : mi_Γ 179 = some mG_179 := rfl
set_option maxRecDepth 100000 in
theorem mJ_180 : mi_Γ 180 = some mG_180 := rfl
set_option maxRecDepth 100000 in
theorem mJ_181 : mi_Γ 181 = some mG_181 := rfl
set_option maxRecDepth 100000 in
theorem mJ_182 : mi_Γ 182 = some mG_182 := rfl
set_option maxRecDepth 100000 in
theorem mJ_183 : mi_Γ 183 = some mG_183 := rfl
set_option maxRecDepth 100000 in
theorem mJ_184 : mi_Γ 184 = some mG_184 := rfl
set_option maxRecDepth 100000 in
theorem mJ_185 : mi_Γ 185 = some mG_185 := rfl
set_option maxRecDepth 100000 in
theorem mJ_186 : mi_Γ 186 = some mG_186 := rfl
set_option maxRecDepth 100000 in
theorem mJ_187 : mi_Γ 187 = some mG_187 := rfl
set_option maxRecDepth 100000 in
theorem mJ_188 : mi_Γ 188 = some mG_188 := rfl
set_option maxRecDepth 100000 in
theorem mJ_189 : mi_Γ 189 = some mG_189 := rfl
set_option maxRecDepth 100000 in
theorem mJ_190 : mi_Γ 190 = some mG_190 := rfl
set_option maxRecDepth 100000 in
theorem mJ_191 : mi_Γ 191 = some mG_191 := rfl
set_option maxRecDepth 100000 in
theorem mJ_192 : mi_Γ 192 = some mG_192 := rfl
set_option maxRecDepth 100000 in
theorem mJ_193 : mi_Γ 193 = some mG_193 := rfl
set_option maxRecDepth 100000 in
theorem mJ_194 : mi_Γ 194 = some mG_194 := rfl
set_option maxRecDepth 100000 in
theorem mJ_195 : mi_Γ 195 = some mG_195 := rfl
set_option maxRecDepth 100000 in
theorem mJ_196 : mi_Γ 196 = some mG_196 := rfl
set_option maxRecDepth 100000 in
theorem mJ_197 : mi_Γ 197 = some mG_197 := rfl
set_option maxRecDepth 100000 in
theorem mJ_198 : mi_Γ 198 = some mG_198 := rfl
set_option maxRecDepth 100000 in
theorem mJ_199 : mi_Γ 199 = some mG_199 := rfl
set_option maxRecDepth 100000 in
theorem mJ_200 : mi_Γ 200 = some mG_200 := rfl
set_option maxRecDepth 100000 in
theorem mJ_201 : mi_Γ 201 = some mG_201 := rfl
set_option maxRecDepth 100000 in
theorem mJ_202 : mi_Γ 202 = some mG_202 := rfl
set_option maxRecDepth 100000 in
theorem mJ_203 : mi_Γ 203 = some mG_203 := rfl
set_option maxRecDepth 100000 in
theorem mJ_204 : mi_Γ 204 = some mG_204 := rfl
set_option maxRecDepth 100000 in
theorem mJ_205 : mi_Γ 205 = some mG_205 := rfl
set_option maxRecDepth 100000 in
theorem mJ_206 : mi_Γ 206 = some mG_206 := rfl
set_option maxRecDepth 100000 in
theorem mJ_207 : mi_Γ 207 = some mG_207 := rfl
set_option maxRecDepth 100000 in
theorem mJ_208 : mi_Γ 208 = some mG_208 := rfl
set_option maxRecDepth 100000 in
theorem mJ_209 : mi_Γ 209 = some mG_209 := rfl
set_option maxRecDepth 100000 in
theorem mJ_210 : mi_Γ 210 = some mG_210 := rfl
set_option maxRecDepth 100000 in
theorem mJ_211 : mi_Γ 211 = some mG_211 := rfl
set_option maxRecDepth 100000 in
theorem mJ_212 : mi_Γ 212 = some mG_212 := rfl
set_option maxRecDepth 100000 in
theorem mJ_213 : mi_Γ 213 = some mG_213 := rfl
set_option maxRecDepth 100000 in
theorem mJ_214 : mi_Γ 214 = some mG_214 := rfl
set_option maxRecDepth 100000 in
theorem mJ_215 : mi_Γ 215 = some mG_215 := rfl
set_option maxRecDepth 100000 in
theorem mJ_216 : mi_Γ 216 = some mG_216 := rfl
set_option maxRecDepth 100000 in
theorem mJ_217 : mi_Γ 217 = some mG_217 := rfl
set_option maxRecDepth 100000 in
theorem mJ_218 : mi_Γ 218 = some mG_218 := rfl
set_option maxRecDepth 100000 in
theorem mJ_219 : mi_Γ 219 = some mG_219 := rfl
set_option maxRecDepth 100000 in
theorem mJ_220 : mi_Γ 220 = some mG_220 := rfl
set_option maxRecDepth 100000 in
theorem mJ_221 : mi_Γ 221 = some mG_221 := rfl
set_option maxRecDepth 100000 in
theorem mJ_222 : mi_Γ 222 = some mG_222 := rfl
set_option maxRecDepth 100000 in
theorem mJ_223 : mi_Γ 223 = some mG_223 := rfl
set_option maxRecDepth 100000 in
theorem mJ_224 : mi_Γ 224 = some mG_224 := rfl
set_option maxRecDepth 100000 in
theorem mJ_225 : mi_Γ 225 = some mG_225 := rfl
set_option maxRecDepth 100000 in
theorem mJ_226 : mi_Γ 226 = some mG_226 := rfl
set_option maxRecDepth 100000 in
theorem mJ_227 : mi_Γ 227 = some mG_227 := rfl
set_option maxRecDepth 100000 in
theorem mJ_228 : mi_Γ 228 = some mG_228 := rfl
set_option maxRecDepth 100000 in
theorem mJ_229 : mi_Γ 229 = some mG_229 := rfl
set_option maxRecDepth 100000 in
theorem mJ_230 : mi_Γ 230 = some mG_230 := rfl
set_option maxRecDepth 100000 in
theorem mJ_231 : mi_Γ 231 = some mG_231 := rfl
set_option maxRecDepth 100000 in
theorem mJ_232 : mi_Γ 232 = some mG_232 := rfl
set_option maxRecDepth 100000 in
theorem mJ_233 : mi_Γ 233 = some mG_233 := rfl
set_option maxRecDepth 100000 in
theorem mJ_234 : mi_Γ 234 = some mG_234 := rfl
set_option maxRecDepth 100000 in
theorem mJ_235 : mi_Γ 235 = some mG_235 := rfl
set_option maxRecDepth 100000 in
theorem mJ_236 : mi_Γ 236 = some mG_236 := rfl
set_option maxRecDepth 100000 in
theorem mJ_237 : mi_Γ 237 = some mG_237 := rfl
set_option maxRecDepth 100000 in
theorem mJ_238 : mi_Γ 238 = some mG_238 := rfl
set_option maxRecDepth 100000 in
theorem mJ_239 : mi_Γ 239 = some mG_239 := rfl
set_option maxRecDepth 100000 in
theorem mJ_240 : mi_Γ 240 = some mG_240 := rfl
set_option maxRecDepth 100000 in
theorem mJ_241 : mi_Γ 241 = some mG_241 := rfl
set_option maxRecDepth 100000 in
theorem mJ_242 : mi_Γ 242 = some mG_242 := rfl
set_option maxRecDepth 100000 in
theorem mJ_243 : mi_Γ 243 = some mG_243 := rfl
set_option maxRecDepth 100000 in
theorem mJ_244 : mi_Γ 244 = some mG_244 := rfl
set_option maxRecDepth 100000 in
theorem mJ_245 : mi_Γ 245 = some mG_245 := rfl
set_option maxRecDepth 100000 in
theorem mJ_246 : mi_Γ 246 = some mG_246 := rfl
set_option maxRecDepth 100000 in
theorem mJ_247 : mi_Γ 247 = some mG_247 := rfl
set_option maxRecDepth 100000 in
theorem mJ_248 : mi_Γ 248 = some mG_248 := rfl
set_option maxRecDepth 100000 in
theorem mJ_249 : mi_Γ 249 = some mG_249 := rfl
set_option maxRecDepth 100000 in
theorem mJ_250 : mi_Γ 250 = some mG_250 := rfl
set_option maxRecDepth 100000 in
theorem mJ_251 : mi_Γ 251 = some mG_251 := rfl
set_option maxRecDepth 100000 in
theorem mJ_252 : mi_Γ 252 = some mG_252 := rfl
set_option maxRecDepth 100000 in
theorem mJ_253 : mi_Γ 253 = some mG_253 := rfl
set_option maxRecDepth 100000 in
theorem mJ_254 : mi_Γ 254 = some mG_254 := rfl
set_option maxRecDepth 100000 in
theorem mJ_255 : mi_Γ 255 = some mG_255 := rfl
set_option maxRecDepth 100000 in
theorem mJ_256 : mi_Γ 256 = some mG_256 := rfl
set_option maxRecDepth 100000 in
theorem mJ_257 : mi_Γ 257 = some mG_257 := rfl
set_option maxRecDepth 100000 in
theorem mJ_258 : mi_Γ 258 = some mG_258 := rfl
set_option maxRecDepth 100000 in
theorem mJ_259 : mi_Γ 259 = some mG_259 := rfl
set_option maxRecDepth 100000 in
theorem mJ_260 : mi_Γ 260 = some mG_260 := rfl
set_option maxRecDepth 100000 in
theorem mJ_261 : mi_Γ 261 = some mG_261 := rfl
set_option maxRecDepth 100000 in
theorem mJ_262 : mi_Γ 262 = some mG_262 := rfl
set_option maxRecDepth 100000 in
theorem mJ_263 : mi_Γ 263 = some mG_263 := rfl
set_option maxRecDepth 100000 in
theorem mJ_264 : mi_Γ 264 = some mG_264 := rfl
set_option maxRecDepth 100000 in
theorem mJ_265 : mi_Γ 265 = some mG_265 := rfl
set_option maxRecDepth 100000 in
theorem mJ_266 : mi_Γ 266 = some mG_266 := rfl
set_option maxRecDepth 100000 in
theorem mJ_267 : mi_Γ 267 = some mG_267 := rfl
set_option maxRecDepth 100000 in
theorem mJ_268 : mi_Γ 268 = some mG_268 := rfl
set_option maxRecDepth 100000 in
theorem mJ_269 : mi_Γ 269 = some mG_269 := rfl
set_option maxRecDepth 100000 in
theorem mJ_270 : mi_Γ 270 = some mG_270 := rfl
set_option maxRecDepth 100000 in
theorem mJ_271 : mi_Γ 271 = some mG_271 := rfl
set_option maxRecDepth 100000 in
theorem mJ_272 : mi_Γ 272 = some mG_272 := rfl
set_option maxRecDepth 100000 in
theorem mJ_273 : mi_Γ 273 = some mG_273 := rfl
set_option maxRecDepth 100000 in
theorem mJ_274 : mi_Γ 274 = some mG_274 := rfl
set_option maxRecDepth 100000 in
theorem mJ_275 : mi_Γ 275 = some mG_275 := rfl
set_option maxRecDepth 100000 in
theorem mJ_276 : mi_Γ 276 = some mG_276 := rfl
set_option maxRecDepth 100000 in
theorem mJ_277 : mi_Γ 277 = some mG_277 := rfl
set_option maxRecDepth 100000 in
theorem mJ_278 : mi_Γ 278 = some mG_278 := rfl
set_option maxRecDepth 100000 in
theorem mJ_279 : mi_Γ 279 = some mG_279 := rfl
set_option maxRecDepth 100000 in
theorem mJ_280 : mi_Γ 280 = some mG_280 := rfl
set_option maxRecDepth 100000 in
theorem mJ_281 : mi_Γ 281 = some mG_281 := rfl
set_option maxRecDepth 100000 in
theorem mJ_282 : mi_Γ 282 = some mG_282 := rfl
set_option maxRecDepth 100000 in
theorem mJ_283 : mi_Γ 283 = some mG_283 := rfl
set_option maxRecDepth 100000 in
theorem mJ_284 : mi_Γ 284 = some mG_284 := rfl
set_option maxRecDepth 100000 in
theorem mJ_285 : mi_Γ 285 = some mG_285 := rfl
set_option maxRecDepth 100000 in
theorem mJ_286 : mi_Γ 286 = some mG_286 := rfl
set_option maxRecDepth 100000 in
theorem mJ_287 : mi_Γ 287 = some mG_287 := rfl
set_option maxRecDepth 100000 in
theorem mJ_288 : mi_Γ 288 = some mG_288 := rfl
set_option maxRecDepth 100000 in
theorem mJ_289 : mi_Γ 289 = some mG_289 := rfl
set_option maxRecDepth 100000 in
theorem mJ_290 : mi_Γ 290 = some mG_290 := rfl
set_option maxRecDepth 100000 in
theorem mJ_291 : mi_Γ 291 = some mG_291 := rfl
set_option maxRecDepth 100000 in
theorem mJ_292 : mi_Γ 292 = some mG_292 := rfl
set_option maxRecDepth 100000 in
theorem mJ_293 : mi_Γ 293 = some mG_293 := rfl
set_option maxRecDepth 100000 in
theorem mJ_294 : mi_Γ 294 = some mG_294 := rfl
set_option maxRecDepth 100000 in
theorem mJ_295 : mi_Γ 295 = some mG_295 := rfl
set_option maxRecDepth 100000 in
theorem mJ_296 : mi_Γ 296 = some mG_296 := rfl
set_option maxRecDepth 100000 in
theorem mJ_297 : mi_Γ 297 = some mG_297 := rfl
set_option maxRecDepth 100000 in
theorem mJ_298 : mi_Γ 298 = some mG_298 := rfl
set_option maxRecDepth 100000 in
theorem mJ_299 : mi_Γ 299 = some mG_299 := rfl
set_option maxRecDepth 100000 in
theorem mJ_300 : mi_Γ 300 = some mG_300 := rfl
set_option maxRecDepth 100000 in
theorem mJ_301 : mi_Γ 301 = some mG_301 := rfl
set_option maxRecDepth 100000 in
theorem mJ_302 : mi_Γ 302 = some mG_302 := rfl
set_option maxRecDepth 100000 in
theorem mJ_303 : mi_Γ 303 = some mG_303 := rfl
set_option maxRecDepth 100000 in
theorem mJ_304 : mi_Γ 304 = some mG_304 := rfl
set_option maxRecDepth 100000 in
theorem mJ_305 : mi_Γ 305 = some mG_305 := rfl
set_option maxRecDepth 100000 in
theorem mJ_306 : mi_Γ 306 = some mG_306 := rfl
set_option maxRecDepth 100000 in
theorem mJ_307 : mi_Γ 307 = some mG_307 := rfl
set_option maxRecDepth 100000 in
theorem mJ_308 : mi_Γ 308 = some mG_308 := rfl
set_option maxRecDepth 100000 in
theorem mJ_309 : mi_Γ 309 = some mG_309 := rfl
set_option maxRecDepth 100000 in
theorem mJ_310 : mi_Γ 310 = some mG_310 := rfl
set_option maxRecDepth 100000 in
theorem mJ_311 : mi_Γ 311 = some mG_311 := rfl
set_option maxRecDepth 100000 in
theorem mJ_312 : mi_Γ 312 = some mG_312 := rfl
set_option maxRecDepth 100000 in
theorem mJ_313 : mi_Γ 313 = some mG_313 := rfl
set_option maxRecDepth 100000 in
theorem mJ_314 : mi_Γ 314 = some mG_314 := rfl
set_option maxRecDepth 100000 in
theorem mJ_315 : mi_Γ 315 = some mG_315 := rfl
set_option maxRecDepth 100000 in
theorem mJ_316 : mi_Γ 316 = some mG_316 := rfl
set_option maxRecDepth 100000 in
theorem mJ_317 : mi_Γ 317 = some mG_317 := rfl
set_option maxRecDepth 100000 in
theorem mJ_318 : mi_Γ 318 = some mG_318 := rfl
set_option maxRecDepth 100000 in
theorem mJ_319 : mi_Γ 319 = some mG_319 := rfl
set_option maxRecDepth 100000 in
theorem mJ_320 : mi_Γ 320 = some mG_320 := rfl
set_option maxRecDepth 100000 in
theorem mJ_321 : mi_Γ 321 = some mG_321 := rfl
set_option maxRecDepth 100000 in
theorem mJ_322 : mi_Γ 322 = some mG_322 := rfl
set_option maxRecDepth 100000 in
theorem mJ_323 : mi_Γ 323 = some mG_323 := rfl
set_option maxRecDepth 100000 in
theorem mJ_324 : mi_Γ 324 = some mG_324 := rfl
set_option maxRecDepth 100000 in
theorem mJ_325 : mi_Γ 325 = some mG_325 := rfl
set_option maxRecDepth 100000 in
theorem mJ_326 : mi_Γ 326 = some mG_326 := rfl
set_option maxRecDepth 100000 in
theorem mJ_327 : mi_Γ 327 = some mG_327 := rfl
set_option maxRecDepth 100000 in
theorem mJ_328 : mi_Γ 328 = some mG_328 := rfl
set_option maxRecDepth 100000 in
theorem mJ_329 : mi_Γ 329 = some mG_329 := rfl
set_option maxRecDepth 100000 in
theorem mJ_330 : mi_Γ 330 = some mG_330 := rfl
set_option maxRecDepth 100000 in
theorem mJ_331 : mi_Γ 331 = some mG_331 := rfl
set_option maxRecDepth 100000 in
theorem mJ_332 : mi_Γ 332 = some mG_332 := rfl
set_option maxRecDepth 100000 in
theorem mJ_333 : mi_Γ 333 = some mG_333 := rfl
set_option maxRecDepth 100000 in
theorem mJ_334 : mi_Γ 334 = some mG_334 := rfl
set_option maxRecDepth 100000 in
theorem mJ_335 : mi_Γ 335 = some mG_335 := rfl
set_option maxRecDepth 100000 in
theorem mJ_336 : mi_Γ 336 = some mG_336 := rfl
set_option maxRecDepth 100000 in
theorem mJ_337 : mi_Γ 337 = some mG_337 := rfl
set_option maxRecDepth 100000 in
theorem mJ_338 : mi_Γ 338 = some mG_338 := rfl
set_option maxRecDepth 100000 in
theorem mJ_339 : mi_Γ 339 = some mG_339 := rfl
set_option maxRecDepth 100000 in
theorem mJ_340 : mi_Γ 340 = some mG_340 := rfl
set_option maxRecDepth 100000 in
theorem mJ_341 : mi_Γ 341 = some mG_341 := rfl
set_option maxRecDepth 100000 in
theorem mJ_342 : mi_Γ 342 = some mG_342 := rfl
set_option maxRecDepth 100000 in
theorem mJ_343 : mi_Γ 343 = some mG_343 := rfl
set_option maxRecDepth 100000 in
theorem mJ_344 : mi_Γ 344 = some mG_344 := rfl
set_option maxRecDepth 100000 in
theorem mJ_345 : mi_Γ 345 = some mG_345 := rfl
set_option maxRecDepth 100000 in
theorem mJ_346 : mi_Γ 346 = some mG_346 := rfl
set_option maxRecDepth 100000 in
theorem mJ_347 : mi_Γ 347 = some mG_347 := rfl
set_option maxRecDepth 100000 in
theorem mJ_348 : mi_Γ 348 = some mG_348 := rfl
set_option maxRecDepth 100000 in
theorem mJ_349 : mi_Γ 349 = some mG_349 := rfl
set_option maxRecDepth 100000 in
theorem mJ_350 : mi_Γ 350 = some mG_350 := rfl
set_option maxRecDepth 100000 in
theorem mJ_351 : mi_Γ 351 = some mG_351 := rfl
set_option maxRecDepth 100000 in
theorem mJ_352 : mi_Γ 352 = some mG_352 := rfl
set_option maxRecDepth 100000 in
theorem mJ_353 : mi_Γ 353 = some mG_353 := rfl
set_option maxRecDepth 100000 in
theorem mJ_354 : mi_Γ 354 = some mG_354 := rfl
set_option maxRecDepth 100000 in
theorem mJ_355 : mi_Γ 355 = some mG_355 := rfl
set_option maxRecDepth 100000 in
theorem mJ_356 : mi_Γ 356 = some mG_356 := rfl
set_option maxRecDepth 100000 in
theorem mJ_357 : mi_Γ 357 = some mG_357 := rfl
set_option maxRecDepth 100000 in
theorem mJ_358 : mi_Γ 358 = some mG_358 := rfl
set_option maxRecDepth 100000 in
theorem mJ_359 : mi_Γ 359 = some mG_359 := rfl
set_option maxRecDepth 100000 in
theorem mJ_360 : mi_Γ 360 = some mG_360 := rfl
set_option maxRecDepth 100000 in
theorem mJ_361 : mi_Γ 361 = some mG_361 := rfl
set_option maxRecDepth 100000 in
theorem mJ_362 : mi_Γ 362 = some mG_362 := rfl
set_option maxRecDepth 100000 in
theorem mJ_363 : mi_Γ 363 = some mG_363 := rfl
set_option maxRecDepth 100000 in
theorem mJ_364 : mi_Γ 364 = some mG_364 := rfl
set_option maxRecDepth 100000 in
theorem mJ_365 : mi_Γ 365 = some mG_365 := rfl
set_option maxRecDepth 100000 in
theorem mJ_366 : mi_Γ 366 = some mG_366 := rfl
set_option maxRecDepth 100000 in
theorem mJ_367 : mi_Γ 367 = some mG_367 := rfl
set_option maxRecDepth 100000 in
theorem mJ_368 : mi_Γ 368 = some mG_368 := rfl
set_option maxRecDepth 100000 in
theorem mJ_369 : mi_Γ 369 = some mG_369 := rfl
set_option maxRecDepth 100000 in
theorem mJ_370 : mi_Γ 370 = some mG_370 := rfl
set_option maxRecDepth 100000 in
theorem mJ_371 : mi_Γ 371 = some mG_371 := rfl
set_option maxRecDepth 100000 in
theorem mJ_372 : mi_Γ 372 = some mG_372 := rfl
set_option maxRecDepth 100000 in
theorem mJ_373 : mi_Γ 373 = some mG_373 := rfl
set_option maxRecDepth 100000 in
theorem mJ_374 : mi_Γ 374 = some mG_374 := rfl
set_option maxRecDepth 100000 in
theorem mJ_375 : mi_Γ 375 = some mG_375 := rfl
set_option maxRecDepth 100000 in
theorem mJ_376 : mi_Γ 376 = some mG_376 := rfl
set_option maxRecDepth 100000 in
theorem mJ_377 : mi_Γ 377 = some mG_377 := rfl
set_option maxRecDepth 100000 in
theorem mJ_378 : mi_Γ 378 = some mG_378 := rfl
set_option maxRecDepth 100000 in
theorem mJ_379 : mi_Γ 379 = some mG_379 := rfl
set_option maxRecDepth 100000 in
theorem mJ_380 : mi_Γ 380 = some mG_380 := rfl
set_option maxRecDepth 100000 in
theorem mJ_381 : mi_Γ 381 = some mG_381 := rfl
set_option maxRecDepth 100000 in
theorem mJ_382 : mi_Γ 382 = some mG_382 := rfl
set_option maxRecDepth 100000 in
theorem mJ_383 : mi_Γ 383 = some mG_383 := rfl
set_option maxRecDepth 100000 in
theorem mJ_384 : mi_Γ 384 = some mG_384 := rfl
set_option maxRecDepth 100000 in
theorem mJ_385 : mi_Γ 385 = some mG_385 := rfl
set_option maxRecDepth 100000 in
theorem mJ_386 : mi_Γ 386 = some mG_386 := rfl
set_option maxRecDepth 100000 in
theorem mJ_387 : mi_Γ 387 = some mG_387 := rfl
set_option maxRecDepth 100000 in
theorem mJ_388 : mi_Γ 388 = some mG_388 := rfl
set_option maxRecDepth 100000 in
theorem mJ_389 : mi_Γ 389 = some mG_389 := rfl
set_option maxRecDepth 100000 in
theorem mJ_390 : mi_Γ 390 = some mG_390 := rfl
set_option maxRecDepth 100000 in
theorem mJ_391 : mi_Γ 391 = some mG_391 := rfl
set_option maxRecDepth 100000 in
theorem mJ_392 : mi_Γ 392 = some mG_392 := rfl
set_option maxRecDepth 100000 in
theorem mJ_393 : mi_Γ 393 = some mG_393 := rfl
set_option maxRecDepth 100000 in
theorem mJ_394 : mi_Γ 394 = some mG_394 := rfl
set_option maxRecDepth 100000 in
theorem mJ_395 : mi_Γ 395 = some mG_395 := rfl
set_option maxRecDepth 100000 in
theorem mJ_396 : mi_Γ 396 = some mG_396 := rfl
set_option maxRecDepth 100000 in
theorem mJ_397 : mi_Γ 397 = some mG_397 := rfl
set_option maxRecDepth 100000 in
theorem mJ_398 : mi_Γ 398 = some mG_398 := rfl
set_option maxRecDepth 100000 in
theorem mJ_399 : mi_Γ 399 = some mG_399 := rfl
set_option maxRecDepth 100000 in
theorem mJ_400 : mi_Γ 400 = some mG_400 := rfl
set_option maxRecDepth 100000 in
theorem mJ_401 : mi_Γ 401 = some mG_401 := rfl
set_option maxRecDepth 100000 in
theorem mJ_402 : mi_Γ 402 = some mG_402 := rfl
set_option maxRecDepth 100000 in
theorem mJ_403 : mi_Γ 403 = some mG_403 := rfl
set_option maxRecDepth 100000 in
theorem mJ_404 : mi_Γ 404 = some mG_404 := rfl
set_option maxRecDepth 100000 in
theorem mJ_405 : mi_Γ 405 = some mG_405 := rfl
set_option maxRecDepth 100000 in
theorem mJ_406 : mi_Γ 406 = some mG_406 := rfl
set_option maxRecDepth 100000 in
theorem mJ_407 : mi_Γ 407 = some mG_407 := rfl
set_option maxRecDepth 100000 in
theorem mJ_408 : mi_Γ 408 = some mG_408 := rfl
set_option maxRecDepth 100000 in
theorem mJ_409 : mi_Γ 409 = some mG_409 := rfl
set_option maxRecDepth 100000 in
theorem mJ_410 : mi_Γ 410 = some mG_410 := rfl
set_option maxRecDepth 100000 in
theorem mJ_411 : mi_Γ 411 = some mG_411 := rfl
set_option maxRecDepth 100000 in
theorem mJ_412 : mi_Γ 412 = some mG_412 := rfl
set_option maxRecDepth 100000 in
theorem mJ_413 : mi_Γ 413 = some mG_413 := rfl
set_option maxRecDepth 100000 in
theorem mJ_414 : mi_Γ 414 = some mG_414 := rfl
set_option maxRecDepth 100000 in
theorem mJ_415 : mi_Γ 415 = some mG_415 := rfl
set_option maxRecDepth 100000 in
theorem mJ_416 : mi_Γ 416 = some mG_416 := rfl
set_option maxRecDepth 100000 in
theorem mJ_417 : mi_Γ 417 = some mG_417 := rfl
set_option maxRecDepth 100000 in
theorem mJ_418 : mi_Γ 418 = some mG_418 := rfl
set_option maxRecDepth 100000 in
theorem mJ_419 : mi_Γ 419 = some mG_419 := rfl
set_option maxRecDepth 100000 in
theorem mJ_420 : mi_Γ 420 = some mG_420 := rfl
set_option maxRecDepth 100000 in
theorem mJ_421 : mi_Γ 421 = some mG_421 := rfl
set_option maxRecDepth 100000 in
theorem mJ_422 : mi_Γ 422 = some mG_422 := rfl
set_option maxRecDepth 100000 in
theorem mJ_423 : mi_Γ 423 = some mG_423 := rfl
set_option maxRecDepth 100000 in
theorem mJ_424 : mi_Γ 424 = some mG_424 := rfl
set_option maxRecDepth 100000 in
theorem mJ_425 : mi_Γ 425 = some mG_425 := rfl
set_option maxRecDepth 100000 in
theorem mJ_426 : mi_Γ 426 = some mG_426 := rfl
set_option maxRecDepth 100000 in
theorem mJ_427 : mi_Γ 427 = some mG_427 := rfl
set_option maxRecDepth 100000 in
theorem mJ_428 : mi_Γ 428 = some mG_428 := rfl
set_option maxRecDepth 100000 in
theorem mJ_429 : mi_Γ 429 = some mG_429 := rfl
set_option maxRecDepth 100000 in
theorem mJ_430 : mi_Γ 430 = some mG_430 := rfl
set_option maxRecDepth 100000 in
theorem mJ_431 : mi_Γ 431 = some mG_431 := rfl
set_option maxRecDepth 100000 in
theorem mJ_432 : mi_Γ 432 = some mG_432 := rfl
set_option maxRecDepth 100000 in
theorem mJ_433 : mi_Γ 433 = some mG_433 := rfl
set_option maxRecDepth 100000 in
theorem mJ_434 : mi_Γ 434 = some mG_434 := rfl
set_option maxRecDepth 100000 in
theorem mJ_435 : mi_Γ 435 = some mG_435 := rfl
