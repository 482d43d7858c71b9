/-! The reference looks at tokens by their bytes. -/
theorem lx_good {b : Nat → Int} {n : Nat} : ∀ (d k : Nat) (o : Option Nat) (r : Bool) (ts : List (Nat × Nat)), k + d = n → (∀ q ∈ ts, q.1 < q.2 ∧ q.2 ≤ n) → (∀ f, o = some f → f < k) → (∀ q ∈ (lx b d k o r ts).2, q.1 < q.2 ∧ q.2 ≤ n) := by
  have hcl : ∀ (k : Nat) (o : Option Nat) (ts : List (Nat × Nat)), k ≤ n → (∀ q ∈ ts, q.1 < q.2 ∧ q.2 ≤ n) → (∀ f, o = some f → f < k) → ∀ q ∈ lx_cl o k ts, q.1 < q.2 ∧ q.2 ≤ n := by
    intro k o ts hk h1 h2 q hq
    cases o with
    | none => exact h1 q hq
    | some f =>
      simp only [lx_cl, List.mem_append, List.mem_cons, List.not_mem_nil, or_false] at hq
      rcases hq with hq | rfl
      · exact h1 q hq
      · exact ⟨h2 f rfl, hk⟩
  intro d
  induction d with
  | zero => intro k o r ts h1 h2 h3; exact hcl k o ts (by omega) h2 h3
  | succ d ih =>
    intro k o r ts h1 h2 h3
    rw [lx]
    split
    · split
      · exact ih (k + 1) _ _ ts (by omega) h2 (fun f e => by
          cases o with
          | none => cases e; omega
          | some f' => cases e; have := h3 f rfl; omega)
      · split
        · refine ih (k + 1) _ _ _ (by omega) (fun q hq => ?_) (fun f e => by cases e)
          rcases List.mem_append.mp hq with hq | hq
          · exact hcl k o ts (by omega) h2 h3 q hq
          · simp only [List.mem_cons, List.not_mem_nil, or_false] at hq
            subst hq
            exact ⟨by simp, by simp; omega⟩
        · exact ih (k + 1) _ _ _ (by omega) (hcl k o ts (by omega) h2 h3) (fun f e => by cases e)
    · exact hcl k o ts (by omega) h2 h3
/-- the reference's view of a text that was cut: token i is the text tx[i] -/
def MW (S : nk_S) (tx : List (List Int)) : Prop := S.1 121 10 = (tx.length : Int) ∧ tx.length ≤ 16000 ∧ ∀ (i : Nat) (l : List Int), tx[i]? = some l → ∃ f t : Nat, S.1 216 i = (f : Int) ∧ S.1 217 i = (t : Int) ∧ f < t ∧ t ≤ 16000 ∧ sg (S.1 215) f t = l
theorem ishr0 {x : Int} (h1 : -2147483648 ≤ x) (h2 : x < 2147483648) : nk_ishr x 0 = x := by
  unfold nk_ishr
  have e : (Int32.ofInt x >>> (Int32.ofInt 0 &&& 31)) = Int32.ofInt x := by
    rw [show (Int32.ofInt 0 &&& 31) = 0 from by decide]
    simp
  rw [e, Int32.toInt_ofInt_of_le (by omega) (by omega)]
theorem chr_id : ∀ b : Nat, b < 128 → nk_i2c (nk_iand (b : Int) 255) = (b : Int) := by decide +kernel
def txt (k : Nat) : List Int := (ja_ob (k + 1)).map Int32.toInt
/-- a text constant as it should be -/
def okt (k : Nat) : Prop := (ja_ob (k + 1)).length < 1000 ∧ ∀ x ∈ ja_ob (k + 1), 0 ≤ x.toInt ∧ x.toInt < 128
theorem txt_len (k : Nat) : (txt k).length = (ja_ob (k + 1)).length := by simp [txt]
theorem jlen {k : Nat} (h : okt k) (S : nk_S) : ja_J0_length_8abf5 k S = some (((txt k).length : Int), S) := by
  unfold ja_J0_length_8abf5 ja_J0_coder_7d493
  rw [if_pos (by have := h.1; omega), if_neg (by decide), bd_some, ishr0 (by omega) (by have := h.1; omega), txt_len]
theorem jchr {k i : Nat} (h : okt k) (hi : i < (txt k).length) (S : nk_S) : ja_J0_charAt_5068e k (i : Int) S = some ((txt k).getD i 0, S) := by
  rw [txt_len] at hi
  have hl := h.1
  have hv : (txt k).getD i 0 = ((ja_ob (k + 1)).getD i 0).toInt := by
    unfold txt
    rw [List.getD_eq_getElem?_getD, List.getD_eq_getElem?_getD, List.getElem?_map, List.getElem?_eq_getElem hi]
    rfl
  have hr := h.2 ((ja_ob (k + 1)).getD i 0) (by
    rw [List.getD_eq_getElem?_getD, List.getElem?_eq_getElem hi]
    exact List.getElem_mem hi)
  obtain ⟨x, hx⟩ : ∃ x : Nat, ((ja_ob (k + 1)).getD i 0).toInt = (x : Int) := ⟨((ja_ob (k + 1)).getD i 0).toInt.toNat, by omega⟩
  have hc : nk_i2c (nk_iand ((ja_ob (k + 1)).getD i 0).toInt 255) = (x : Int) := by rw [hx]; exact chr_id x (by omega)
  have e1 : ja_J1_charAt_3b067 (k + 1) (i : Int) S = some ((x : Int), S) := by
    unfold ja_J1_charAt_3b067 ja_J0_checkIndex_df160 ja_J3_checkIndex_8e157
    rw [if_pos (by omega), if_neg (by omega), if_pos (by omega), bd_some, bd_some, if_pos ⟨by omega, by omega⟩, Int.toNat_natCast, hc, if_pos ⟨by omega, by omega⟩]
  unfold ja_J0_charAt_5068e ja_J0_isLatin1_aae02
  rw [if_neg (by decide), if_pos rfl, bd_some, if_neg (by decide), e1, bd_some, if_pos ⟨by omega, by omega⟩, hv, hx]
theorem bi_iff {P Q : Prop} [Decidable P] [Decidable Q] (h : P ↔ Q) : bi (decide P) = bi (decide Q) := by rw [decide_eq_decide.mpr h]
/-- is -/
theorem mq_L {S : nk_S} {k i f n : Nat} (h : okt k) (hi : i < 16002) (hf : S.1 216 i = (f : Int)) (hn : n = (txt k).length) (hfn : f + n ≤ 16000) : ∀ (d m p : Nat), p + d = n → d < m → ja_X13_is_L32 m 121 (i : Int) k (p : Int) S = some (bi (decide (sg (S.1 215) (f + p) (f + n) = (txt k).drop p)), S) := by
  intro d
  induction d with
  | zero =>
    intro m p h1 h2
    obtain ⟨m, rfl⟩ : ∃ q, m = q + 1 := ⟨m - 1, by omega⟩
    show ja_X13_is_b32 (ja_X13_is_L32 m) 121 _ _ _ S = _
    unfold ja_X13_is_b32
    rw [jlen h, bd_some, if_pos (by omega), sg_nil _ (by omega), List.drop_eq_nil_of_le (by omega)]
    rfl
  | succ d ih =>
    intro m p h1 h2
    obtain ⟨m, rfl⟩ : ∃ q, m = q + 1 := ⟨m - 1, by omega⟩
    have ih1 := ih m (p + 1) (by omega) (by omega)
    show ja_X13_is_b32 (ja_X13_is_L32 m) 121 _ _ _ S = _
    unfold ja_X13_is_b32
    rw [jlen h, bd_some, if_neg (by omega), if_pos (in_i (N := 16002) (by omega)), jc_121_8, Int.toNat_natCast, hf, w_nat (by omega), if_pos (in_i (N := 16000) (by omega)), jchr h (by omega), bd_some, jc_121_6, Int.toNat_natCast]
    have hd : (txt k).drop p = (txt k).getD p 0 :: (txt k).drop (p + 1) := by
      rw [List.drop_eq_getElem_cons (by omega), List.getD_eq_getElem?_getD, List.getElem?_eq_getElem (by omega)]
      rfl
    rw [sg_cons _ (show f + p < f + n by omega), hd]
    by_cases q : S.1 215 (f + p) = (txt k).getD p 0
    · rw [if_pos q, lt_eq, w_nat1 (by omega), ih1]
      congr 3
      rw [decide_eq_decide, q, List.cons.injEq]
      simp only [true_and]
      rw [show f + (p + 1) = f + p + 1 by omega]
    · rw [if_neg q, decide_eq_false (fun e => q (List.cons.inj e).1)]
      rfl
theorem m_is {S : nk_S} {tx : List (List Int)} {k : Nat} (hM : MW S tx) (h : okt k) (i : Nat) (hi : i < 2000000) : ja_X13_is 121 (i : Int) k S = some (bi (decide (tx[i]? = some (txt k))), S) := by
  obtain ⟨h1, h2, h3⟩ := hM
  unfold ja_X13_is
  rw [h1]
  by_cases c : (tx.length : Int) ≤ (i : Int)
  · rw [if_pos c, List.getElem?_eq_none (by omega)]; rfl
  · have hlt : i < tx.length := by omega
    obtain ⟨f, t, e1, e2, e3, e4, e5⟩ := h3 i _ (List.getElem?_eq_getElem hlt)
    rw [if_neg c, if_pos (in_i (N := 16002) (by omega)), jlen h, bd_some, jc_121_8, jc_121_9, Int.toNat_natCast, e1, e2, w_sub (by omega) (by omega), List.getElem?_eq_getElem hlt]
    by_cases q : ((t - f : Nat) : Int) = ((txt k).length : Int)
    · rw [if_pos q]
      have := mq_L (S := S) (k := k) (i := i) (f := f) (n := (txt k).length) h (by omega) e1 rfl (by omega) (txt k).length nk_big 0 (by omega) (by have := h.1; rw [txt_len]; unfold nk_big; omega)
      rw [Nat.add_zero, show f + (txt k).length = t by omega, e5, List.drop_zero] at this
      rw [show ((0 : Int)) = ((0 : Nat) : Int) from rfl, this]
      congr 3
      rw [decide_eq_decide, Option.some.injEq]
    · rw [if_neg q, decide_eq_false (fun e => q ?_)]
      · rfl
      · rw [Option.some.injEq] at e
        rw [← e, ← e5, sg_len]
/-- isSame -/
theorem ms_L {S : nk_S} {f g n : Nat} (hf : f + n ≤ 16000) (hg : g + n ≤ 16000) : ∀ (d m p : Nat), p + d = n → d < m → ja_X13_isSame_L15 m 121 (f : Int) ((f + n : Nat) : Int) (g : Int) (p : Int) S = some (bi (decide (sg (S.1 215) (f + p) (f + n) = sg (S.1 215) (g + p) (g + n))), S) := by
  intro d
  induction d with
  | zero =>
    intro m p h1 h2
    obtain ⟨m, rfl⟩ : ∃ q, m = q + 1 := ⟨m - 1, by omega⟩
    show ja_X13_isSame_b15 (ja_X13_isSame_L15 m) 121 _ _ _ _ S = _
    unfold ja_X13_isSame_b15
    rw [w_sub (by omega) (by omega), if_pos (by omega), sg_nil _ (by omega), sg_nil _ (by omega)]
    rfl
  | succ d ih =>
    intro m p h1 h2
    obtain ⟨m, rfl⟩ : ∃ q, m = q + 1 := ⟨m - 1, by omega⟩
    have ih1 := ih m (p + 1) (by omega) (by omega)
    show ja_X13_isSame_b15 (ja_X13_isSame_L15 m) 121 _ _ _ _ S = _
    unfold ja_X13_isSame_b15
    rw [w_sub (by omega) (by omega), if_neg (by omega), w_nat (by omega), w_nat (by omega), if_pos (in_i (N := 16000) (by omega)), if_pos (in_i (N := 16000) (by omega)), jc_121_6, Int.toNat_natCast, Int.toNat_natCast, sg_cons _ (show f + p < f + n by omega), sg_cons _ (show g + p < g + n by omega)]
    by_cases q : S.1 215 (f + p) = S.1 215 (g + p)
    · rw [if_pos q, lt_eq, w_nat1 (by omega), ih1]
      congr 3
      rw [decide_eq_decide, q, List.cons.injEq]
      simp only [true_and]
      rw [show f + (p + 1) = f + p + 1 by omega, show g + (p + 1) = g + p + 1 by omega]
    · rw [if_neg q, decide_eq_false (fun e => q (List.cons.inj e).1)]
      rfl
theorem m_same {S : nk_S} {f t g u : Nat} (hf : f ≤ t) (ht : t ≤ 16000) (hg : g ≤ u) (hu : u ≤ 16000) : ja_X13_isSame 121 (f : Int) (t : Int) (g : Int) (u : Int) S = some (bi (decide (sg (S.1 215) f t = sg (S.1 215) g u)), S) := by
  unfold ja_X13_isSame
  rw [w_sub hf (by omega), w_sub hg (by omega)]
  by_cases q : ((t - f : Nat) : Int) = ((u - g : Nat) : Int)
  · rw [if_pos q]
    have := ms_L (S := S) (f := f) (g := g) (n := t - f) (by omega) (by omega) (t - f) nk_big 0 (by omega) (by unfold nk_big; omega)
    rw [Nat.add_zero, Nat.add_zero, show f + (t - f) = t by omega, show g + (t - f) = u by omega] at this
    exact this
  · rw [if_neg q, decide_eq_false (fun e => q (by have := (sg_eq.mp e).1; omega))]
    rfl
