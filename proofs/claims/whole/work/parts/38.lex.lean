/-! How a text is cut: one function for both sides; the reference does it. -/
def lx_fine (c : Int) : Bool := decide (32 ≤ c ∧ c ≤ 126 ∨ c = 9 ∨ c = 10 ∨ c = 13)
def lx_mark (c : Int) : Bool := decide (c = 40 ∨ c = 41 ∨ c = 123 ∨ c = 125 ∨ c = 58)
def lx_rem (r : Bool) (c : Int) : Bool := decide (c = 59 ∨ r = true ∧ ¬ c = 10)
def lx_ins (r : Bool) (c : Int) : Bool := decide (r = false ∧ 32 < c ∧ lx_mark c = false)
def lx_cl (o : Option Nat) (k : Nat) (ts : List (Nat × Nat)) : List (Nat × Nat) := match o with
  | some f => ts ++ [(f, k)]
  | none => ts
def lx_op (o : Option Nat) (k : Nat) : Option Nat := match o with
  | some f => some f
  | none => some k
/-- what is left of the text: d bytes from k on; an open word, in a remark or not, the tokens so far -/
def lx (b : Nat → Int) : Nat → Nat → Option Nat → Bool → List (Nat × Nat) → Bool × List (Nat × Nat)
  | 0, k, o, _, ts => (true, lx_cl o k ts)
  | d + 1, k, o, r, ts => if lx_fine (b k) = true then
      if lx_ins (lx_rem r (b k)) (b k) = true then lx b d (k + 1) (lx_op o k) (lx_rem r (b k)) ts
      else if lx_mark (b k) = true ∧ lx_rem r (b k) = false then lx b d (k + 1) none (lx_rem r (b k)) (lx_cl o k ts ++ [(k, k + 1)])
      else lx b d (k + 1) none (lx_rem r (b k)) (lx_cl o k ts)
    else (false, lx_cl o k ts)
def bi (b : Bool) : Int := match b with
  | true => 1
  | false => 0
/-! the reference -/
theorem mc_64 {rec11 : Nat → Int → Int → Int → nk_S → Option (Int × nk_S)} {l1 l3 c : Int} {r : Bool} {S : nk_S} : ja_X13_cut_b64 rec11 121 l1 (bi r) l3 c S = ja_X13_cut_b85 rec11 121 l1 (bi (lx_rem r c)) l3 c S := by
  unfold ja_X13_cut_b64 lx_rem
  by_cases h1 : c = 10
  · subst h1; rw [if_pos rfl]; cases r <;> rfl
  · rw [if_neg h1]
    by_cases h2 : c = 59
    · rw [if_pos h2]; simp [h2, bi]
    · rw [if_neg h2]; cases r <;> simp [h1, h2, bi]
def lx_blank (r : Bool) (c : Int) : Bool := decide (r = true ∨ c = 9 ∨ c = 10 ∨ c = 13 ∨ c = 32)
theorem mc_85 {rec11 : Nat → Int → Int → Int → nk_S → Option (Int × nk_S)} {l1 l3 c : Int} {r : Bool} {S : nk_S} : ja_X13_cut_b85 rec11 121 l1 (bi r) l3 c S = ja_X13_cut_b122 rec11 121 l1 (bi r) l3 c (bi (lx_blank r c)) S := by
  unfold ja_X13_cut_b85 ja_X13_cut_b117 lx_blank
  cases r with
  | true => rfl
  | false =>
    rw [if_pos (show bi false = 0 from rfl)]
    by_cases h1 : c = 9
    · rw [if_pos h1]; simp [h1, bi]
    · rw [if_neg h1]
      by_cases h2 : c = 10
      · rw [if_pos h2]; simp [h2, bi]
      · rw [if_neg h2]
        by_cases h3 : c = 13
        · rw [if_pos h3]; simp [h3, bi]
        · rw [if_neg h3]
          by_cases h4 : c = 32
          · rw [if_pos h4]; simp [h4, bi]
          · rw [if_neg h4]; simp [h1, h2, h3, h4, bi]
theorem mc_122 {rec11 : Nat → Int → Int → Int → nk_S → Option (Int × nk_S)} {l1 l2 l3 c : Int} {q : Bool} {S : nk_S} : ja_X13_cut_b122 rec11 121 l1 l2 l3 c (bi q) S = ja_X13_cut_b169 rec11 121 l1 l2 l3 (bi q) (bi (!q && lx_mark c)) S := by
  unfold ja_X13_cut_b122 ja_X13_cut_b164 ja_X13_cut_b168 lx_mark
  cases q with
  | true => rfl
  | false =>
    rw [if_pos (show bi false = 0 from rfl)]
    by_cases h1 : c = 40
    · rw [if_pos h1]; simp [h1, bi]
    · rw [if_neg h1]
      by_cases h2 : c = 41
      · rw [if_pos h2]; simp [h2, bi]
      · rw [if_neg h2]
        by_cases h3 : c = 123
        · rw [if_pos h3]; simp [h3, bi]
        · rw [if_neg h3]
          by_cases h4 : c = 125
          · rw [if_pos h4]; simp [h4, bi]
          · rw [if_neg h4]
            by_cases h5 : c = 58
            · rw [if_pos h5]; simp [h5, bi]
            · rw [if_neg h5]; simp [h1, h2, h3, h4, h5, bi]
/-- how the reference's rows stand to the tokens so far -/
def mc_R (S : nk_S) (k : Nat) (o : Option Nat) (ts : List (Nat × Nat)) : Prop := S.1 121 10 = ((ts.length + (match o with | some _ => 1 | none => 0) : Nat) : Int) ∧ (∀ (i : Nat) (q : Nat × Nat), ts[i]? = some q → S.1 216 i = (q.1 : Int) ∧ S.1 217 i = (q.2 : Int)) ∧ ∀ f, o = some f → S.1 216 ts.length = (f : Int) ∧ S.1 217 ts.length = (k : Int)
def mc_io (o : Option Nat) : Int := match o with
  | some _ => 1
  | none => 0
theorem mc_R_cl {S : nk_S} {k k' : Nat} {o : Option Nat} {ts : List (Nat × Nat)} (h : mc_R S k o ts) : mc_R S k' none (lx_cl o k ts) := by
  obtain ⟨h1, h2, h3⟩ := h
  cases o with
  | none => exact ⟨h1, h2, fun f e => by cases e⟩
  | some f =>
    refine ⟨?_, fun i q hq => ?_, fun f e => by cases e⟩
    · rw [h1]; simp [lx_cl]
    · simp only [lx_cl] at hq
      by_cases hi : i < ts.length
      · rw [List.getElem?_append_left hi] at hq; exact h2 i q hq
      · rw [List.getElem?_append_right (by omega)] at hq
        have : i - ts.length = 0 := by
          cases hd : i - ts.length with
          | zero => rfl
          | succ d => rw [hd] at hq; simp at hq
        rw [this] at hq
        simp at hq
        subst hq
        obtain rfl : i = ts.length := by omega
        exact h3 f rfl
theorem mc_L {b : Nat → Int} {n : Nat} (hn : n ≤ 16000) : ∀ (d m k : Nat) (o : Option Nat) (r : Bool) (ts : List (Nat × Nat)) (S : nk_S), k + d = n → d < m → S.1 121 7 = (n : Int) → (∀ i, i < n → S.1 215 i = b i) → ts.length + (match o with | some _ => 1 | none => 0) ≤ k → mc_R S k o ts → ∃ S', ja_X13_cut_L11 m 121 (mc_io o) (bi r) (k : Int) S = some (bi (lx b d k o r ts).1, S') ∧ mc_R S' n none (lx b d k o r ts).2 ∧ S'.2 = S.2 ∧ (∀ a, a ≠ 121 → a ≠ 216 → a ≠ 217 → S'.1 a = S.1 a) ∧ ∀ i, i ≠ 10 → S'.1 121 i = S.1 121 i := by
  intro d
  induction d with
  | zero =>
    intro m k o r ts S h1 h2 h3 h4 h5 h6
    obtain ⟨m, rfl⟩ : ∃ q, m = q + 1 := ⟨m - 1, by omega⟩
    refine ⟨S, ?_, mc_R_cl h6, rfl, fun _ _ _ _ => rfl, fun _ _ => rfl⟩
    show ja_X13_cut_b11 (ja_X13_cut_L11 m) 121 _ _ _ S = _
    unfold ja_X13_cut_b11
    rw [h3, if_pos (by omega)]
    rfl
  | succ d ih =>
    intro m k o r ts S h1 h2 h3 h4 h5 h6
    obtain ⟨m, rfl⟩ : ∃ q, m = q + 1 := ⟨m - 1, by omega⟩
    show ∃ S', ja_X13_cut_b11 (ja_X13_cut_L11 m) 121 (mc_io o) (bi r) (k : Int) S = _ ∧ _
    rw [lx]
    have hb := h4 k (by omega)
    by_cases hf : lx_fine (b k) = true
    · rw [if_pos hf]
      have e1 : ja_X13_cut_b11 (ja_X13_cut_L11 m) 121 (mc_io o) (bi r) (k : Int) S = ja_X13_cut_b64 (ja_X13_cut_L11 m) 121 (mc_io o) (bi r) (k : Int) (b k) S := by
        unfold ja_X13_cut_b11
        rw [h3, if_neg (by omega), if_pos (in_i (N := 16000) (by omega)), lt_eq, jc_121_6, Int.toNat_natCast, hb]
        unfold lx_fine at hf
        rw [decide_eq_true_eq] at hf
        by_cases q1 : b k = 9
        · rw [if_pos q1]
        · rw [if_neg q1]
          by_cases q2 : b k = 10
          · rw [if_pos q2]
          · rw [if_neg q2]
            by_cases q3 : b k = 13
            · rw [if_pos q3]
            · rw [if_neg q3, if_neg (by omega), if_pos (by omega)]
      rw [e1, mc_64, mc_85, mc_122]
      have hw : nk_w ((k : Int) + 1) = ((k + 1 : Nat) : Int) := w_nat1 (by omega)
      generalize hr' : lx_rem r (b k) = r'
      have hfine : 32 ≤ b k ∧ b k ≤ 126 ∨ b k = 9 ∨ b k = 10 ∨ b k = 13 := by unfold lx_fine at hf; rw [decide_eq_true_eq] at hf; exact hf
      by_cases hi : lx_ins r' (b k) = true
      · rw [if_pos hi]
        unfold lx_ins at hi
        rw [decide_eq_true_eq] at hi
        obtain ⟨i1, i2, i3⟩ := hi
        have hbl : lx_blank r' (b k) = false := by unfold lx_blank; rw [decide_eq_false_iff_not]; rw [i1]; intro q; rcases q with q | q | q | q | q <;> first | (cases q; done) | omega
        rw [hbl, i3]
        unfold ja_X13_cut_b169
        rw [show bi false = 0 from rfl, if_pos rfl, show bi (!false && false) = 0 from rfl, if_pos rfl]
        unfold ja_X13_cut_b183
        rw [if_pos rfl]
        obtain ⟨t1, t2, t3⟩ := h6
        cases o with
        | none =>
          simp only at t1 h5
          rw [show mc_io (none : Option Nat) = 0 from rfl, if_pos rfl, t1, if_pos (in_i (N := 16002) (by omega)), lt_eq, lt_eq, jc_121_8, Int.toNat_natCast]
          unfold ja_X13_cut_b215
          have k2 : nk_w (((ts.length + 1 : Nat) : Int) - 1) = ((ts.length : Nat) : Int) := by rw [nk_w_id (by omega) (by omega)]; omega
          have k1 : nk_w (((ts.length + 0 : Nat) : Int) + 1) = ((ts.length + 1 : Nat) : Int) := w_nat1 (by omega)
          simp +decide only [wi_v, false_and, and_self, if_true, if_false, t1, k1, k2, lt_eq, jc_121_9, Int.toNat_natCast, hw]
          clear k1 k2
          rw [if_pos (in_i (N := 16002) (by omega))]
          obtain ⟨S', p1, p2, p3, p4, p5⟩ := ih m (k + 1) (some k) r' ts (nk_wi (nk_wi (nk_wi S 216 (ts.length + 0) (k : Int)) 121 10 ((ts.length + 1 : Nat) : Int)) 217 ts.length ((k + 1 : Nat) : Int)) (by omega) (by omega) (by simp +decide only [wi_v, false_and, if_false]; exact h3) (fun i hi => by simp +decide only [wi_v, false_and, if_false]; exact h4 i hi) (by simp only; omega) (by
            refine ⟨?_, fun i q hq => ?_, fun f e => ?_⟩
            · simp +decide only [wi_v, false_and, and_self, if_true, if_false]
            · have hl : ¬ i = ts.length := by have := (List.getElem?_eq_some_iff.mp hq).1; omega
              simp +decide only [wi_v, false_and, true_and, Nat.add_zero, hl, if_false]
              exact t2 i q hq
            · cases e
              simp +decide only [wi_v, false_and, true_and, Nat.add_zero, if_true, if_false, and_self])
          refine ⟨S', p1, p2, p3, fun a a1 a2 a3 => ?_, fun i hi => ?_⟩
          · rw [p4 a a1 a2 a3, wi_n a3, wi_n a1, wi_n a2]
          · rw [p5 i hi]; simp +decide only [wi_v, hi, false_and, and_false, if_false]
        | some f =>
          simp only at t1 h5
          obtain ⟨u1, u2⟩ := t3 f rfl
          rw [show mc_io (some f) = 1 from rfl, if_neg (by decide)]
          unfold ja_X13_cut_b215
          have k2 : nk_w (((ts.length + 1 : Nat) : Int) - 1) = ((ts.length : Nat) : Int) := by rw [nk_w_id (by omega) (by omega)]; omega
          simp +decide only [t1, k2, lt_eq, jc_121_9, Int.toNat_natCast, hw, if_true]
          rw [if_pos (in_i (N := 16002) (by omega))]
          obtain ⟨S', p1, p2, p3, p4, p5⟩ := ih m (k + 1) (some f) r' ts (nk_wi S 217 ts.length ((k + 1 : Nat) : Int)) (by omega) (by omega) (by simp +decide only [wi_v, false_and, if_false]; exact h3) (fun i hi => by simp +decide only [wi_v, false_and, if_false]; exact h4 i hi) (by simp only; omega) (by
            refine ⟨?_, fun i q hq => ?_, fun f' e => ?_⟩
            · simp +decide only [wi_v, false_and, if_false]; exact t1
            · have hl : ¬ i = ts.length := by have := (List.getElem?_eq_some_iff.mp hq).1; omega
              simp +decide only [wi_v, false_and, true_and, hl, if_false]
              exact t2 i q hq
            · cases e
              simp +decide only [wi_v, false_and, true_and, if_true, if_false, and_self, u1])
          refine ⟨S', p1, p2, p3, fun a a1 a2 a3 => ?_, fun i hi => ?_⟩
          · rw [p4 a a1 a2 a3, wi_n a3]
          · rw [p5 i hi]; simp +decide only [wi_v, false_and, if_false]
      · rw [if_neg hi]
        have hcl : ∀ k', mc_R S k' none (lx_cl o k ts) := fun k' => mc_R_cl h6
        have hlen : (lx_cl o k ts).length ≤ k := by cases o <;> simp [lx_cl] at h5 ⊢ <;> omega
        generalize lx_cl o k ts = us at hcl hlen ⊢
        by_cases hm : lx_mark (b k) = true ∧ r' = false
        · rw [if_pos hm]
          have hbl : lx_blank r' (b k) = false := by
            unfold lx_blank; rw [decide_eq_false_iff_not, hm.2]
            have := hm.1
            unfold lx_mark at this
            rw [decide_eq_true_eq] at this
            intro q; rcases q with q | q | q | q | q <;> first | (cases q; done) | omega
          rw [hbl, hm.1]
          unfold ja_X13_cut_b169
          rw [show bi false = 0 from rfl, if_pos rfl, show bi (!false && true) = 1 from rfl, if_neg (by decide)]
          unfold ja_X13_cut_b181 ja_X13_cut_b183
          obtain ⟨t1, t2, -⟩ := hcl k
          rw [if_pos rfl, if_pos rfl, t1, if_pos (in_i (N := 16002) (by simp only; omega)), lt_eq, lt_eq, jc_121_8, Int.toNat_natCast]
          unfold ja_X13_cut_b215
          have k2 : nk_w (((us.length + 1 : Nat) : Int) - 1) = ((us.length : Nat) : Int) := by rw [nk_w_id (by omega) (by omega)]; omega
          have k1 : nk_w (((us.length + 0 : Nat) : Int) + 1) = ((us.length + 1 : Nat) : Int) := w_nat1 (by omega)
          simp +decide only [wi_v, false_and, and_self, if_true, if_false, t1, k1, k2, lt_eq, jc_121_9, Int.toNat_natCast, hw]
          clear k1 k2
          rw [if_pos (in_i (N := 16002) (by omega))]
          obtain ⟨S', p1, p2, p3, p4, p5⟩ := ih m (k + 1) none r' (us ++ [(k, k + 1)]) (nk_wi (nk_wi (nk_wi S 216 (us.length + 0) (k : Int)) 121 10 ((us.length + 1 : Nat) : Int)) 217 us.length ((k + 1 : Nat) : Int)) (by omega) (by omega) (by simp +decide only [wi_v, false_and, if_false]; exact h3) (fun i hi => by simp +decide only [wi_v, false_and, if_false]; exact h4 i hi) (by simp only [List.length_append, List.length_cons, List.length_nil]; omega) (by
            refine ⟨?_, fun i q hq => ?_, fun f e => by cases e⟩
            · simp +decide only [wi_v, false_and, and_self, if_true, if_false, List.length_append, List.length_cons, List.length_nil]
            · by_cases hl : i = us.length
              · subst hl
                simp at hq
                subst hq
                simp +decide only [wi_v, false_and, true_and, Nat.add_zero, if_true, if_false, and_self]
              · have hl2 : i < us.length := by
                  have := (List.getElem?_eq_some_iff.mp hq).1
                  simp only [List.length_append, List.length_cons, List.length_nil] at this
                  omega
                rw [List.getElem?_append_left hl2] at hq
                simp +decide only [wi_v, false_and, true_and, Nat.add_zero, hl, if_false]
                exact t2 i q hq)
          refine ⟨S', p1, p2, p3, fun a a1 a2 a3 => ?_, fun i hi => ?_⟩
          · rw [p4 a a1 a2 a3, wi_n a3, wi_n a1, wi_n a2]
          · rw [p5 i hi]; simp +decide only [wi_v, hi, false_and, and_false, if_false]
        · rw [if_neg hm]
          have hbl : lx_blank r' (b k) = true := by
            unfold lx_blank; rw [decide_eq_true_eq]
            cases hr2 : r' with
            | true => exact Or.inl rfl
            | false =>
              right
              by_cases hgt : 32 < b k
              · exfalso
                cases hm2 : lx_mark (b k) with
                | true => exact hm ⟨hm2, hr2⟩
                | false => exact hi (by unfold lx_ins; rw [decide_eq_true_eq]; exact ⟨hr2, hgt, hm2⟩)
              · omega
          rw [hbl]
          unfold ja_X13_cut_b169
          rw [show bi true = 1 from rfl, if_neg (by decide)]
          unfold ja_X13_cut_b181 ja_X13_cut_b183
          rw [if_neg (by decide), lt_eq, hw]
          exact ih m (k + 1) none r' us S (by omega) (by omega) h3 h4 (by simp only; omega) (hcl _)
    · rw [if_neg hf]
      refine ⟨S, ?_, mc_R_cl h6, rfl, fun _ _ _ _ => rfl, fun _ _ => rfl⟩
      unfold ja_X13_cut_b11
      rw [h3, if_neg (by omega), if_pos (in_i (N := 16000) (by omega)), lt_eq, jc_121_6, Int.toNat_natCast, hb]
      unfold lx_fine at hf
      rw [decide_eq_true_eq] at hf
      rw [if_neg (by omega), if_neg (by omega), if_neg (by omega)]
      by_cases q : b k < 32
      · rw [if_pos q]; rfl
      · rw [if_neg q, if_neg (by omega)]; rfl
