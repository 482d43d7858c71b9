/-! Tools for the functions: writes, lets, binds, numbers. -/
def jw (f : Nat → Int) (k : Nat) (x : Int) : Nat → Int := fun i => if i = k then x else f i
theorem jw_s (f : Nat → Int) (k : Nat) (x : Int) : jw f k x k = x := if_pos rfl
theorem jw_n {f : Nat → Int} {k i : Nat} {x : Int} (h : i ≠ k) : jw f k x i = f i := if_neg h
theorem jw_i (f : Nat → Int) (k : Nat) (x : Int) (i : Nat) : jw f k x i = if i = k then x else f i := rfl
theorem wi_s (S : nk_S) (a k : Nat) (x : Int) : (nk_wi S a k x).1 a = jw (S.1 a) k x := by
  funext i; simp only [nk_wi, jw, true_and]
theorem wi_n {S : nk_S} {a b k : Nat} {x : Int} (h : b ≠ a) : (nk_wi S a k x).1 b = S.1 b := by
  funext i; simp only [nk_wi, h, false_and, if_false]
theorem wi_2 (S : nk_S) (a k : Nat) (x : Int) : (nk_wi S a k x).2 = S.2 := rfl
theorem wr_1 (S : nk_S) (a k r : Nat) : (nk_wr S a k r).1 = S.1 := rfl
theorem wr_2 (S : nk_S) (a k r b i : Nat) : (nk_wr S a k r).2 b i = if b = a ∧ i = k then r else S.2 b i := rfl
theorem cp_s (S : nk_S) (a0 sp a dp n : Nat) : (nk_cp S a0 sp a dp n).1 a = fun i => if dp ≤ i ∧ i < dp + n then S.1 a0 (sp + (i - dp)) else S.1 a i := by
  funext i; simp only [nk_cp, true_and]
theorem cp_n {S : nk_S} {a0 sp a dp n b : Nat} (h : b ≠ a) : (nk_cp S a0 sp a dp n).1 b = S.1 b := by
  funext i; simp only [nk_cp, h, false_and, if_false]
theorem cp_2 (S : nk_S) (a0 sp a dp n : Nat) : (nk_cp S a0 sp a dp n).2 = S.2 := rfl
theorem lt_eq {α β : Type} (e : α) (k : α → β) : nk_lt e k = k e := rfl
theorem bd_some (r : Int) (S : nk_S) (k : Int → nk_S → Option (Int × nk_S)) : nk_bd (some (r, S)) k = k r S := rfl
theorem big_ge (n : Nat) (h : n ≤ 1099511627776) : ∃ m, nk_big = m + n := ⟨nk_big - n, by unfold nk_big; omega⟩
theorem i32_lo (x : Int32) : -2147483648 ≤ x.toInt := x.le_toInt
theorem i32_hi (x : Int32) : x.toInt < 2147483648 := x.toInt_lt
theorem i2b_id {x : Int} (h1 : -128 ≤ x) (h2 : x < 128) : nk_i2b x = x := Int.bmod_eq_of_le (by omega) (by omega)
theorem i2b_rg (x : Int) : -128 ≤ nk_i2b x ∧ nk_i2b x < 128 := by
  have h1 := Int.le_bmod (x := x) (m := 2 ^ 8) (by decide)
  have h2 := Int.bmod_lt (x := x) (m := 2 ^ 8) (by decide)
  exact ⟨h1, h2⟩
theorem i2b_2 (x : Int) : nk_i2b (nk_i2b x) = nk_i2b x := i2b_id (i2b_rg x).1 (i2b_rg x).2
/-! both machines' bytes of an int -/
theorem fb_sh (x : BitVec 32) (s : Nat) (hs : s ≤ 24) : (x >>> s).signExtend 8 = (x.sshiftRight s).signExtend 8 := by
  refine BitVec.eq_of_getLsbD_eq (fun i hi => ?_)
  have h1 : i < 32 := by omega
  have h2 : s + i < 32 := by omega
  have h3 : ¬ 32 ≤ i := by omega
  rw [BitVec.getLsbD_signExtend, BitVec.getLsbD_signExtend, if_pos h1, if_pos h1, BitVec.getLsbD_ushiftRight, BitVec.getLsbD_sshiftRight, if_pos h2]
  simp [h3]
theorem fb_i2b (x : Int32) : nk_i2b x.toInt = x.toInt8.toInt := (Int32.toInt_toInt8 x).symm
theorem fb_eq (w : Int32) : nk_i2b (nk_iushr w.toInt 24) = nk_i2b (nk_ishr w.toInt 24) ∧ nk_i2b (nk_iushr w.toInt 16) = nk_i2b (nk_ishr w.toInt 16) ∧ nk_i2b (nk_iushr w.toInt 8) = nk_i2b (nk_ishr w.toInt 8) ∧ nk_i2b (nk_iushr w.toInt 0) = nk_i2b (nk_ishr w.toInt 0) := by
  simp only [nk_iushr, nk_ishr, Int32.ofInt_toInt, fb_i2b]
  have k1 : (((w.toUInt32 >>> ((Int32.ofInt 24).toUInt32 &&& Int32.toUInt32 31)).toInt32).toInt8) = (w >>> (Int32.ofInt 24 &&& 31)).toInt8 := Int8.toBitVec_inj.mp (fb_sh w.toBitVec 24 (by decide))
  have k2 : (((w.toUInt32 >>> ((Int32.ofInt 16).toUInt32 &&& Int32.toUInt32 31)).toInt32).toInt8) = (w >>> (Int32.ofInt 16 &&& 31)).toInt8 := Int8.toBitVec_inj.mp (fb_sh w.toBitVec 16 (by decide))
  have k3 : (((w.toUInt32 >>> ((Int32.ofInt 8).toUInt32 &&& Int32.toUInt32 31)).toInt32).toInt8) = (w >>> (Int32.ofInt 8 &&& 31)).toInt8 := Int8.toBitVec_inj.mp (fb_sh w.toBitVec 8 (by decide))
  have k4 : (((w.toUInt32 >>> ((Int32.ofInt 0).toUInt32 &&& Int32.toUInt32 31)).toInt32).toInt8) = (w >>> (Int32.ofInt 0 &&& 31)).toInt8 := Int8.toBitVec_inj.mp (fb_sh w.toBitVec 0 (by decide))
  rw [k1, k2, k3, k4]
  exact ⟨rfl, rfl, rfl, rfl⟩
/-! where the cells lie -/
theorem jc_0_0 : ja_c 0 0 = 1 := rfl
theorem jc_0_3 : ja_c 0 3 = 2 := rfl
theorem jc_0_8 : ja_c 0 8 = 85 := rfl
theorem jc_0_9 : ja_c 0 9 = 86 := rfl
theorem jc_0_10 : ja_c 0 10 = 92 := rfl
theorem jc_0_11 : ja_c 0 11 = 112 := rfl
theorem jc_0_13 : ja_c 0 13 = 113 := rfl
theorem jc_2_0 : ja_c 2 0 = 3 := rfl
theorem jc_2_3 : ja_c 2 3 = 4 := rfl
theorem jc_2_6 : ja_c 2 6 = 5 := rfl
theorem jc_2_7 : ja_c 2 7 = 6 := rfl
theorem jc_2_8 : ja_c 2 8 = 7 := rfl
theorem jc_2_9 : ja_c 2 9 = 8 := rfl
theorem jc_2_11 : ja_c 2 11 = 12 := rfl
theorem jc_2_12 : ja_c 2 12 = 9 := rfl
theorem jc_2_13 : ja_c 2 13 = 10 := rfl
theorem jc_2_14 : ja_c 2 14 = 11 := rfl
theorem jc_13_0 : ja_c 13 0 = 14 := rfl
theorem jc_13_1 : ja_c 13 1 = 22 := rfl
theorem jc_13_2 : ja_c 13 2 = 36 := rfl
theorem jc_13_4 : ja_c 13 4 = 38 := rfl
theorem jc_13_5 : ja_c 13 5 = 39 := rfl
theorem jc_13_6 : ja_c 13 6 = 40 := rfl
theorem jc_13_7 : ja_c 13 7 = 41 := rfl
theorem jc_13_8 : ja_c 13 8 = 42 := rfl
theorem jc_13_9 : ja_c 13 9 = 43 := rfl
theorem jc_13_11 : ja_c 13 11 = 44 := rfl
theorem jc_13_13 : ja_c 13 13 = 45 := rfl
theorem jc_13_14 : ja_c 13 14 = 46 := rfl
theorem jc_13_15 : ja_c 13 15 = 47 := rfl
theorem jc_13_16 : ja_c 13 16 = 48 := rfl
theorem jc_14_1 : ja_c 14 1 = 15 := rfl
theorem jc_14_2 : ja_c 14 2 = 16 := rfl
theorem jc_14_3 : ja_c 14 3 = 17 := rfl
theorem jc_14_5 : ja_c 14 5 = 18 := rfl
theorem jc_14_6 : ja_c 14 6 = 19 := rfl
theorem jc_14_7 : ja_c 14 7 = 20 := rfl
theorem jc_14_8 : ja_c 14 8 = 21 := rfl
theorem jc_22_2 : ja_c 22 2 = 23 := rfl
theorem jc_22_3 : ja_c 22 3 = 24 := rfl
theorem jc_22_4 : ja_c 22 4 = 25 := rfl
theorem jc_22_5 : ja_c 22 5 = 26 := rfl
theorem jc_22_6 : ja_c 22 6 = 27 := rfl
theorem jc_22_7 : ja_c 22 7 = 28 := rfl
theorem jc_22_8 : ja_c 22 8 = 29 := rfl
theorem jc_22_9 : ja_c 22 9 = 30 := rfl
theorem jc_22_10 : ja_c 22 10 = 31 := rfl
theorem jc_22_11 : ja_c 22 11 = 32 := rfl
theorem jc_22_12 : ja_c 22 12 = 33 := rfl
theorem jc_22_13 : ja_c 22 13 = 34 := rfl
theorem jc_22_14 : ja_c 22 14 = 35 := rfl
theorem jc_36_1 : ja_c 36 1 = 37 := rfl
theorem jc_49_0 : ja_c 49 0 = 50 := rfl
theorem jc_49_1 : ja_c 49 1 = 58 := rfl
theorem jc_49_2 : ja_c 49 2 = 72 := rfl
theorem jc_49_4 : ja_c 49 4 = 74 := rfl
theorem jc_49_5 : ja_c 49 5 = 75 := rfl
theorem jc_49_6 : ja_c 49 6 = 76 := rfl
theorem jc_49_7 : ja_c 49 7 = 77 := rfl
theorem jc_49_8 : ja_c 49 8 = 78 := rfl
theorem jc_49_9 : ja_c 49 9 = 79 := rfl
theorem jc_49_11 : ja_c 49 11 = 80 := rfl
theorem jc_49_13 : ja_c 49 13 = 81 := rfl
theorem jc_49_14 : ja_c 49 14 = 82 := rfl
theorem jc_49_15 : ja_c 49 15 = 83 := rfl
theorem jc_49_16 : ja_c 49 16 = 84 := rfl
theorem jc_50_1 : ja_c 50 1 = 51 := rfl
theorem jc_50_2 : ja_c 50 2 = 52 := rfl
theorem jc_50_3 : ja_c 50 3 = 53 := rfl
theorem jc_50_5 : ja_c 50 5 = 54 := rfl
theorem jc_50_6 : ja_c 50 6 = 55 := rfl
theorem jc_50_7 : ja_c 50 7 = 56 := rfl
theorem jc_50_8 : ja_c 50 8 = 57 := rfl
theorem jc_58_2 : ja_c 58 2 = 59 := rfl
theorem jc_58_3 : ja_c 58 3 = 60 := rfl
theorem jc_58_4 : ja_c 58 4 = 61 := rfl
theorem jc_58_5 : ja_c 58 5 = 62 := rfl
theorem jc_58_6 : ja_c 58 6 = 63 := rfl
theorem jc_58_7 : ja_c 58 7 = 64 := rfl
theorem jc_58_8 : ja_c 58 8 = 65 := rfl
theorem jc_58_9 : ja_c 58 9 = 66 := rfl
theorem jc_58_10 : ja_c 58 10 = 67 := rfl
theorem jc_58_11 : ja_c 58 11 = 68 := rfl
theorem jc_58_12 : ja_c 58 12 = 69 := rfl
theorem jc_58_13 : ja_c 58 13 = 70 := rfl
theorem jc_58_14 : ja_c 58 14 = 71 := rfl
theorem jc_72_1 : ja_c 72 1 = 73 := rfl
theorem jc_85_0 : ja_c 85 0 = 2 := rfl
theorem jc_86_2 : ja_c 86 2 = 87 := rfl
theorem jc_86_3 : ja_c 86 3 = 88 := rfl
theorem jc_86_4 : ja_c 86 4 = 89 := rfl
theorem jc_86_5 : ja_c 86 5 = 90 := rfl
theorem jc_86_6 : ja_c 86 6 = 91 := rfl
theorem jc_92_2 : ja_c 92 2 = 93 := rfl
theorem jc_92_3 : ja_c 92 3 = 100 := rfl
theorem jc_92_4 : ja_c 92 4 = 107 := rfl
theorem jc_92_5 : ja_c 92 5 = 108 := rfl
theorem jc_92_6 : ja_c 92 6 = 109 := rfl
theorem jc_92_7 : ja_c 92 7 = 110 := rfl
theorem jc_92_8 : ja_c 92 8 = 111 := rfl
theorem jc_93_0 : ja_c 93 0 = 94 := rfl
theorem jc_93_1 : ja_c 93 1 = 95 := rfl
theorem jc_93_2 : ja_c 93 2 = 96 := rfl
theorem jc_93_3 : ja_c 93 3 = 97 := rfl
theorem jc_93_4 : ja_c 93 4 = 98 := rfl
theorem jc_93_5 : ja_c 93 5 = 99 := rfl
theorem jc_100_0 : ja_c 100 0 = 101 := rfl
theorem jc_100_1 : ja_c 100 1 = 102 := rfl
theorem jc_100_2 : ja_c 100 2 = 103 := rfl
theorem jc_100_3 : ja_c 100 3 = 104 := rfl
theorem jc_100_4 : ja_c 100 4 = 105 := rfl
theorem jc_100_5 : ja_c 100 5 = 106 := rfl
theorem jc_113_0 : ja_c 113 0 = 92 := rfl
theorem jc_113_2 : ja_c 113 2 = 114 := rfl
theorem jc_113_3 : ja_c 113 3 = 115 := rfl
theorem jc_113_4 : ja_c 113 4 = 116 := rfl
theorem jc_113_6 : ja_c 113 6 = 117 := rfl
theorem jc_113_7 : ja_c 113 7 = 118 := rfl
theorem jc_113_9 : ja_c 113 9 = 119 := rfl
theorem jc_113_10 : ja_c 113 10 = 112 := rfl
theorem jc_113_18 : ja_c 113 18 = 120 := rfl
theorem jc_121_3 : ja_c 121 3 = 214 := rfl
theorem jc_121_6 : ja_c 121 6 = 215 := rfl
theorem jc_121_8 : ja_c 121 8 = 216 := rfl
theorem jc_121_9 : ja_c 121 9 = 217 := rfl
theorem jc_121_13 : ja_c 121 13 = 218 := rfl
theorem jc_121_14 : ja_c 121 14 = 219 := rfl
theorem jc_121_15 : ja_c 121 15 = 220 := rfl
theorem jc_121_16 : ja_c 121 16 = 221 := rfl
theorem jc_121_17 : ja_c 121 17 = 222 := rfl
theorem jc_121_18 : ja_c 121 18 = 223 := rfl
theorem jc_121_20 : ja_c 121 20 = 224 := rfl
theorem jc_121_21 : ja_c 121 21 = 225 := rfl
theorem jc_121_22 : ja_c 121 22 = 226 := rfl
theorem jc_121_23 : ja_c 121 23 = 227 := rfl
theorem jc_121_24 : ja_c 121 24 = 228 := rfl
theorem jc_121_26 : ja_c 121 26 = 229 := rfl
theorem jc_121_27 : ja_c 121 27 = 230 := rfl
theorem jc_121_28 : ja_c 121 28 = 231 := rfl
theorem jc_121_29 : ja_c 121 29 = 232 := rfl
theorem jc_121_30 : ja_c 121 30 = 233 := rfl
theorem jc_121_31 : ja_c 121 31 = 234 := rfl
theorem jc_121_32 : ja_c 121 32 = 235 := rfl
theorem jc_121_33 : ja_c 121 33 = 236 := rfl
theorem jc_121_34 : ja_c 121 34 = 237 := rfl
theorem jc_121_35 : ja_c 121 35 = 238 := rfl
theorem jc_121_41 : ja_c 121 41 = 239 := rfl
theorem jc_121_42 : ja_c 121 42 = 240 := rfl
theorem jc_121_43 : ja_c 121 43 = 241 := rfl
theorem jc_121_44 : ja_c 121 44 = 242 := rfl
theorem jc_121_45 : ja_c 121 45 = 243 := rfl
theorem jc_121_46 : ja_c 121 46 = 244 := rfl
theorem jc_121_47 : ja_c 121 47 = 245 := rfl
theorem jc_121_48 : ja_c 121 48 = 246 := rfl
theorem jc_121_49 : ja_c 121 49 = 247 := rfl
theorem jc_121_50 : ja_c 121 50 = 248 := rfl
theorem jc_121_51 : ja_c 121 51 = 249 := rfl
theorem jc_122_8 : ja_c 122 8 = 123 := rfl
theorem jc_122_9 : ja_c 122 9 = 124 := rfl
theorem jc_122_10 : ja_c 122 10 = 125 := rfl
theorem jc_122_11 : ja_c 122 11 = 126 := rfl
theorem jc_122_12 : ja_c 122 12 = 127 := rfl
theorem jc_122_13 : ja_c 122 13 = 128 := rfl
theorem jc_122_14 : ja_c 122 14 = 129 := rfl
theorem jc_122_15 : ja_c 122 15 = 130 := rfl
theorem jc_122_16 : ja_c 122 16 = 131 := rfl
theorem jc_122_17 : ja_c 122 17 = 132 := rfl
theorem jc_122_18 : ja_c 122 18 = 133 := rfl
theorem jc_122_19 : ja_c 122 19 = 134 := rfl
theorem jc_122_20 : ja_c 122 20 = 135 := rfl
theorem jc_122_21 : ja_c 122 21 = 136 := rfl
theorem jc_122_22 : ja_c 122 22 = 137 := rfl
theorem jc_122_23 : ja_c 122 23 = 138 := rfl
theorem jc_122_24 : ja_c 122 24 = 139 := rfl
theorem jc_122_25 : ja_c 122 25 = 140 := rfl
theorem jc_122_26 : ja_c 122 26 = 141 := rfl
theorem jc_122_27 : ja_c 122 27 = 142 := rfl
theorem jc_122_28 : ja_c 122 28 = 143 := rfl
theorem jc_122_29 : ja_c 122 29 = 144 := rfl
theorem jc_122_30 : ja_c 122 30 = 145 := rfl
theorem jc_122_31 : ja_c 122 31 = 146 := rfl
theorem jc_122_32 : ja_c 122 32 = 147 := rfl
theorem jc_122_33 : ja_c 122 33 = 148 := rfl
theorem jc_122_34 : ja_c 122 34 = 149 := rfl
theorem jc_122_35 : ja_c 122 35 = 150 := rfl
theorem jc_122_36 : ja_c 122 36 = 151 := rfl
theorem jc_122_37 : ja_c 122 37 = 152 := rfl
theorem jc_122_38 : ja_c 122 38 = 153 := rfl
theorem jc_122_39 : ja_c 122 39 = 154 := rfl
theorem jc_122_40 : ja_c 122 40 = 155 := rfl
theorem jc_122_41 : ja_c 122 41 = 156 := rfl
theorem jc_122_42 : ja_c 122 42 = 157 := rfl
theorem jc_122_43 : ja_c 122 43 = 158 := rfl
theorem jc_122_44 : ja_c 122 44 = 159 := rfl
theorem jc_122_45 : ja_c 122 45 = 160 := rfl
theorem jc_122_46 : ja_c 122 46 = 161 := rfl
theorem jc_122_47 : ja_c 122 47 = 162 := rfl
theorem jc_122_48 : ja_c 122 48 = 163 := rfl
theorem jc_122_49 : ja_c 122 49 = 164 := rfl
theorem jc_122_50 : ja_c 122 50 = 165 := rfl
theorem jc_122_51 : ja_c 122 51 = 166 := rfl
theorem jc_122_52 : ja_c 122 52 = 167 := rfl
theorem jc_168_8 : ja_c 168 8 = 169 := rfl
theorem jc_168_9 : ja_c 168 9 = 170 := rfl
theorem jc_168_10 : ja_c 168 10 = 171 := rfl
theorem jc_168_11 : ja_c 168 11 = 172 := rfl
theorem jc_168_12 : ja_c 168 12 = 173 := rfl
theorem jc_168_13 : ja_c 168 13 = 174 := rfl
theorem jc_168_14 : ja_c 168 14 = 175 := rfl
theorem jc_168_15 : ja_c 168 15 = 176 := rfl
theorem jc_168_16 : ja_c 168 16 = 177 := rfl
theorem jc_168_17 : ja_c 168 17 = 178 := rfl
theorem jc_168_18 : ja_c 168 18 = 179 := rfl
theorem jc_168_19 : ja_c 168 19 = 180 := rfl
theorem jc_168_20 : ja_c 168 20 = 181 := rfl
theorem jc_168_21 : ja_c 168 21 = 182 := rfl
theorem jc_168_22 : ja_c 168 22 = 183 := rfl
theorem jc_168_23 : ja_c 168 23 = 184 := rfl
theorem jc_168_24 : ja_c 168 24 = 185 := rfl
theorem jc_168_25 : ja_c 168 25 = 186 := rfl
theorem jc_168_26 : ja_c 168 26 = 187 := rfl
theorem jc_168_27 : ja_c 168 27 = 188 := rfl
theorem jc_168_28 : ja_c 168 28 = 189 := rfl
theorem jc_168_29 : ja_c 168 29 = 190 := rfl
theorem jc_168_30 : ja_c 168 30 = 191 := rfl
theorem jc_168_31 : ja_c 168 31 = 192 := rfl
theorem jc_168_32 : ja_c 168 32 = 193 := rfl
theorem jc_168_33 : ja_c 168 33 = 194 := rfl
theorem jc_168_34 : ja_c 168 34 = 195 := rfl
theorem jc_168_35 : ja_c 168 35 = 196 := rfl
theorem jc_168_36 : ja_c 168 36 = 197 := rfl
theorem jc_168_37 : ja_c 168 37 = 198 := rfl
theorem jc_168_38 : ja_c 168 38 = 199 := rfl
theorem jc_168_39 : ja_c 168 39 = 200 := rfl
theorem jc_168_40 : ja_c 168 40 = 201 := rfl
theorem jc_168_41 : ja_c 168 41 = 202 := rfl
theorem jc_168_42 : ja_c 168 42 = 203 := rfl
theorem jc_168_43 : ja_c 168 43 = 204 := rfl
theorem jc_168_44 : ja_c 168 44 = 205 := rfl
theorem jc_168_45 : ja_c 168 45 = 206 := rfl
theorem jc_168_46 : ja_c 168 46 = 207 := rfl
theorem jc_168_47 : ja_c 168 47 = 208 := rfl
theorem jc_168_48 : ja_c 168 48 = 209 := rfl
theorem jc_168_49 : ja_c 168 49 = 210 := rfl
theorem jc_168_50 : ja_c 168 50 = 211 := rfl
theorem jc_168_51 : ja_c 168 51 = 212 := rfl
theorem jc_168_52 : ja_c 168 52 = 213 := rfl
