/-! The class cuts the text: its loop. -/
theorem ct_71 {rec11 : Nat → Int → Int → Int → Int → Int → nk_S → Option (Int × nk_S)} {l2 l3 l4 l6 c : Int} {S : nk_S} : (if c < 32 then ja_X10_cut_b45 rec11 2 l2 l3 l4 l6 c S else if c ≤ 126 then ja_X10_cut_b66 rec11 2 l2 l3 l4 l6 c S else ja_X10_cut_b45 rec11 2 l2 l3 l4 l6 c S) = ja_X10_cut_b71 rec11 2 l2 l3 l4 l6 c (bi (lx_fine c)) S := by
  unfold ja_X10_cut_b45 ja_X10_cut_b66 lx_fine
  by_cases h1 : c < 32
  · rw [if_pos h1]
    by_cases h2 : c = 9
    · rw [if_pos h2]; simp [h2, bi]
    · rw [if_neg h2]
      by_cases h3 : c = 10
      · rw [if_pos h3]; simp [h3, bi]
      · rw [if_neg h3]
        by_cases h4 : c = 13
        · rw [if_pos h4]; simp [h4, bi]
        · rw [if_neg h4, decide_eq_false (by omega)]; rfl
  · rw [if_neg h1]
    by_cases h2 : c ≤ 126
    · rw [if_pos h2, decide_eq_true (by omega)]; rfl
    · rw [if_neg h2, if_neg (by omega), if_neg (by omega), if_neg (by omega), decide_eq_false (by omega)]; rfl
theorem ct_97 {rec11 : Nat → Int → Int → Int → Int → Int → nk_S → Option (Int × nk_S)} {l2 l3 l6 c s0 : Int} {r : Bool} {S : nk_S} : ja_X10_cut_b71 rec11 2 l2 l3 (bi r) l6 c s0 S = ja_X10_cut_b97 rec11 2 l2 l3 s0 l6 c (bi (lx_rem r c)) S := by
  unfold ja_X10_cut_b71 ja_X10_cut_b92 ja_X10_cut_b96 lx_rem
  by_cases h1 : c = 59
  · rw [if_pos h1]; simp [h1, bi]
  · rw [if_neg h1]
    cases r with
    | false => rw [if_pos (show bi false = 0 from rfl)]; simp [h1, bi]
    | true =>
      rw [if_neg (show ¬ bi true = 0 by decide)]
      by_cases h2 : c = 10
      · rw [if_pos h2]; simp [h2, bi]
      · rw [if_neg h2]; simp [h1, h2, bi]
theorem ct_139 {rec11 : Nat → Int → Int → Int → Int → Int → nk_S → Option (Int × nk_S)} {l2 l3 l5 l6 c s0 : Int} {S : nk_S} : ja_X10_cut_b97 rec11 2 l2 l3 l5 l6 c s0 S = ja_X10_cut_b139 rec11 2 l2 l3 s0 l5 l6 c (bi (lx_mark c)) S := by
  unfold ja_X10_cut_b97 ja_X10_cut_b134 lx_mark
  by_cases h1 : c = 40
  · rw [if_pos h1]; simp [h1, bi]
  · rw [if_neg h1]
    by_cases h2 : c = 41
    · rw [if_pos h2]; simp [h2, bi]
    · rw [if_neg h2]
      by_cases h3 : c = 123
      · rw [if_pos h3]; simp [h3, bi]
      · rw [if_neg h3]
        by_cases h4 : c = 125
        · rw [if_pos h4]; simp [h4, bi]
        · rw [if_neg h4]
          by_cases h5 : c = 58
          · rw [if_pos h5]; simp [h5, bi]
          · rw [if_neg h5]; simp [h1, h2, h3, h4, h5, bi]
theorem ct_168 {rec11 : Nat → Int → Int → Int → Int → Int → nk_S → Option (Int × nk_S)} {l2 l3 l6 c : Int} {r f : Bool} {S : nk_S} : ja_X10_cut_b139 rec11 2 l2 l3 (bi r) (bi f) l6 c (bi (lx_mark c)) S = ja_X10_cut_b168 rec11 2 l2 l3 (bi r) (bi f) l6 (bi (lx_mark c)) (bi (f && lx_ins r c)) S := by
  unfold ja_X10_cut_b139 ja_X10_cut_b167 lx_ins
  cases f with
  | false => rfl
  | true =>
    rw [if_neg (show ¬ bi true = 0 by decide)]
    cases r with
    | true => rw [if_neg (show ¬ bi true = 0 by decide)]; rfl
    | false =>
      rw [if_pos (show bi false = 0 from rfl)]
      by_cases h1 : c ≤ 32
      · rw [if_pos h1, decide_eq_false (by omega)]; rfl
      · rw [if_neg h1]
        cases hm : lx_mark c with
        | false => rw [if_pos (show bi false = 0 from rfl), decide_eq_true ⟨rfl, by omega, rfl⟩]; rfl
        | true => rw [if_neg (show ¬ bi true = 0 by decide), decide_eq_false (by simp)]; rfl
def co (o : Option Nat) : Int := match o with
  | some f => ((360 + f : Nat) : Int)
  | none => -1
/-- one byte -/
theorem ct_b11 {rec11 : Nat → Int → Int → Int → Int → Int → nk_S → Option (Int × nk_S)} {g : Nat → Int} {n k : Nat} {l3 : Int} {r : Bool} {S : nk_S} (hg : S.1 3 = g) (hk : k < n) (hn : n ≤ 16000) : ja_X10_cut_b11 rec11 2 ((360 + n : Nat) : Int) l3 (bi r) 1 ((360 + k : Nat) : Int) S = ja_X10_cut_b168 rec11 2 ((360 + n : Nat) : Int) l3 (bi (lx_rem r (g (360 + k)))) (bi (lx_fine (g (360 + k)))) ((360 + k : Nat) : Int) (bi (lx_mark (g (360 + k)))) (bi (lx_fine (g (360 + k)) && lx_ins (lx_rem r (g (360 + k))) (g (360 + k)))) S := by
  unfold ja_X10_cut_b11
  rw [if_neg (by decide), if_neg (by omega), if_pos (in_i (N := 16512) (by omega)), lt_eq, jc_2_0, Int.toNat_natCast, hg, ct_71, ct_97, ct_139, ct_168]
def ct_o (b : Nat → Int) (k : Nat) (o : Option Nat) (ts : List (Nat × Nat)) : Prop := match o with
  | some f => f < k ∧ lx_mark (b f) = false ∧ lw b ts ≤ f
  | none => lw b ts ≤ k
def ol (o : Option Nat) : Nat := match o with
  | some _ => 1
  | none => 0
noncomputable def ct_add (o : Option Nat) (k : Nat) (S : nk_S) : Option (Int × nk_S) := match o with
  | some f => ja_X10_addToken 2 ((360 + f : Nat) : Int) ((360 + k : Nat) : Int) S
  | none => some (0, S)
/-- an open word is closed -/
theorem ct_close {g : Nat → Int} {S : nk_S} {c k n : Nat} {o : Option Nat} {ts : List (Nat × Nat)} (h : cc_R g S c ts) (ho : ct_o (fun k => g (360 + k)) k o ts) (hk : k ≤ n) (hn : n ≤ 16000) (hl : ts.length + ol o ≤ k) : lw (fun k => g (360 + k)) (lx_cl o k ts) ≤ k + 1 ∧ (lx_cl o k ts).length ≤ k ∧ ∃ S' c', ct_add o k S = some (0, S') ∧ cc_R g S' c' (lx_cl o k ts) ∧ cc_F S S' := by
  cases o with
  | none => exact ⟨by have : lw (fun k => g (360 + k)) ts ≤ k := ho; show lw _ ts ≤ _; omega, hl, S, c, rfl, h, cc_F_rf S⟩
  | some f =>
    obtain ⟨o1, o2, o3⟩ := ho
    have hc : c < 12288 := by
      obtain ⟨-, -, -, -, -, h6, h7, -⟩ := h
      omega
    simp only [ol] at hl
    obtain ⟨S', c', e1, e2, e3⟩ := at_c h (f := f) (t := k) o1 (by omega) (by omega) hc (fun e => by rw [o2] at e; cases e)
    refine ⟨?_, ?_, S', c', e1, e2, e3⟩
    · simp only [lx_cl]
      rw [lw_snoc]
      simp only [o2, Bool.false_eq_true, if_false]
      omega
    · simp only [lx_cl, List.length_append, List.length_cons, List.length_nil]; omega
theorem ct_L {g : Nat → Int} {n : Nat} (hn : n ≤ 16000) : ∀ (d m k : Nat) (o : Option Nat) (r : Bool) (ts : List (Nat × Nat)) (S : nk_S) (c : Nat), k + d = n → d + 1 < m → cc_R g S c ts → ct_o (fun k => g (360 + k)) k o ts → ts.length + ol o ≤ k → ∃ S' c', ja_X10_cut_L11 m 2 ((360 + n : Nat) : Int) (co o) (bi r) 1 ((360 + k : Nat) : Int) S = some (bi (lx (fun k => g (360 + k)) d k o r ts).1, S') ∧ cc_R g S' c' (lx (fun k => g (360 + k)) d k o r ts).2 ∧ cc_F S S' ∧ lw (fun k => g (360 + k)) (lx (fun k => g (360 + k)) d k o r ts).2 ≤ n + 1 := by
  intro d
  induction d with
  | zero =>
    intro m k o r ts S c h1 h2 h3 h4 h5
    obtain ⟨m, rfl⟩ : ∃ q, m = q + 1 := ⟨m - 1, by omega⟩
    obtain rfl : k = n := by omega
    obtain ⟨q1, q2, S', c', q3, q4, q5⟩ := ct_close (n := k) h3 h4 (by omega) hn h5
    refine ⟨S', c', ?_, q4, q5, q1⟩
    show ja_X10_cut_b11 (ja_X10_cut_L11 m) 2 _ (co o) (bi r) 1 _ S = some (1, S')
    unfold ja_X10_cut_b11
    rw [if_neg (by decide), if_pos (by omega)]
    unfold ja_X10_cut_b226
    cases o with
    | none =>
      cases q3
      rw [show co (none : Option Nat) = -1 from rfl, if_pos (by decide), if_pos (by decide)]
    | some f =>
      simp only [ct_add] at q3
      rw [show co (some f) = ((360 + f : Nat) : Int) from rfl, if_neg (by omega), q3, bd_some, if_pos (by decide)]
  | succ d ih =>
    intro m k o r ts S c h1 h2 h3 h4 h5
    obtain ⟨m, rfl⟩ : ∃ q, m = q + 1 := ⟨m - 1, by omega⟩
    show ∃ S' c', ja_X10_cut_b11 (ja_X10_cut_L11 m) 2 _ (co o) (bi r) 1 _ S = _ ∧ _
    rw [ct_b11 h3.2.2.1 (by omega) hn, lx]
    have hw : nk_w (((360 + k : Nat) : Int) + 1) = ((360 + (k + 1) : Nat) : Int) := by rw [nk_w_id (by omega) (by omega)]; omega
    obtain ⟨q1, q2, S1, c1, q3, q4, q5⟩ := ct_close (n := n) h3 h4 (by omega) hn h5
    have hcl : ∀ (l4 l5 l8 : Int), ja_X10_cut_b168 (ja_X10_cut_L11 m) 2 ((360 + n : Nat) : Int) (co o) l4 l5 ((360 + k : Nat) : Int) l8 0 S = ja_X10_cut_b200 (ja_X10_cut_L11 m) 2 ((360 + n : Nat) : Int) (-1) l4 l5 ((360 + k : Nat) : Int) l8 S1 := by
      intro l4 l5 l8
      unfold ja_X10_cut_b168 ja_X10_cut_b188
      rw [if_pos rfl, if_pos rfl]
      cases o with
      | none => cases q3; rw [show co (none : Option Nat) = -1 from rfl, if_pos (by decide)]
      | some f =>
        simp only [ct_add] at q3
        rw [show co (some f) = ((360 + f : Nat) : Int) from rfl, if_neg (by omega), q3, bd_some, if_pos rfl]
    by_cases hf : lx_fine (g (360 + k)) = true
    · simp only [hf, if_true, Bool.true_and]
      generalize hr' : lx_rem r (g (360 + k)) = r'
      by_cases hi : lx_ins r' (g (360 + k)) = true
      · rw [if_pos hi, hi]
        have hi2 := hi
        unfold lx_ins at hi2
        rw [decide_eq_true_eq] at hi2
        obtain ⟨i1, i2, i3⟩ := hi2
        have e1 : ja_X10_cut_b168 (ja_X10_cut_L11 m) 2 ((360 + n : Nat) : Int) (co o) (bi r') (bi true) ((360 + k : Nat) : Int) (bi (lx_mark (g (360 + k)))) (bi true) S = ja_X10_cut_L11 m 2 ((360 + n : Nat) : Int) (co (lx_op o k)) (bi r') 1 ((360 + (k + 1) : Nat) : Int) S := by
          rw [i3]
          unfold ja_X10_cut_b168 ja_X10_cut_b188 ja_X10_cut_b200
          rw [show bi true = 1 from rfl, show bi false = 0 from rfl]
          simp +decide only [if_false, if_true, lt_eq, hw]
          cases o with
          | none => rw [show co (none : Option Nat) = -1 from rfl, if_neg (by decide)]; rfl
          | some f => rw [show co (some f) = ((360 + f : Nat) : Int) from rfl, if_pos (by omega)]; rfl
        rw [e1]
        clear hw
        refine ih m (k + 1) (lx_op o k) r' ts S c (by omega) (by omega) h3 ?_ ?_
        · cases o with
          | none => exact ⟨by omega, i3, h4⟩
          | some f => exact ⟨by have := h4.1; omega, h4.2.1, h4.2.2⟩
        · cases o with
          | none => simp only [lx_op, ol] at h5 ⊢; omega
          | some f => simp only [lx_op, ol] at h5 ⊢; omega
      · rw [if_neg hi, show lx_ins r' (g (360 + k)) = false by simpa using hi, show bi false = 0 from rfl, hcl]
        unfold ja_X10_cut_b200
        by_cases hm : lx_mark (g (360 + k)) = true ∧ r' = false
        · obtain ⟨hm1, hm2⟩ := hm
          rw [if_pos (show lx_mark (g (360 + k)) = true ∧ r' = false from ⟨hm1, hm2⟩), hm1, hm2]
          have hc1 : c1 < 12288 := by
            obtain ⟨-, -, -, -, -, z6, z7, -⟩ := q4
            omega
          obtain ⟨S2, c2, e1, e2, e3⟩ := at_c q4 (f := k) (t := k + 1) (by omega) (by omega) (by omega) hc1 (fun _ => rfl)
          rw [show bi true = 1 from rfl, show bi false = 0 from rfl, if_neg (by decide), if_pos rfl, hw, e1, bd_some, lt_eq]
          clear hw
          obtain ⟨S', c', p1, p2, p3, p4⟩ := ih m (k + 1) none false (lx_cl o k ts ++ [(k, k + 1)]) S2 c2 (by omega) (by omega) e2 (by
            show lw _ _ ≤ k + 1
            rw [lw_snoc]
            simp only [hm1, if_true]
            omega) (by simp only [ol, List.length_append, List.length_cons, List.length_nil]; omega)
          exact ⟨S', c', p1, p2, cc_F_tr (cc_F_tr q5 e3) p3, p4⟩
        · rw [if_neg hm]
          have e1 : (if bi (lx_mark (g (360 + k))) = 0 then nk_lt (nk_w (((360 + k : Nat) : Int) + 1)) fun v1 => ja_X10_cut_L11 m 2 ((360 + n : Nat) : Int) (-1) (bi r') (bi true) v1 S1 else if bi r' = 0 then nk_bd (ja_X10_addToken 2 ((360 + k : Nat) : Int) (nk_w (((360 + k : Nat) : Int) + 1)) S1) fun r5 S6 => nk_lt (nk_w (((360 + k : Nat) : Int) + 1)) fun v8 => ja_X10_cut_L11 m 2 ((360 + n : Nat) : Int) (-1) (bi r') (bi true) v8 S6 else nk_lt (nk_w (((360 + k : Nat) : Int) + 1)) fun v3 => ja_X10_cut_L11 m 2 ((360 + n : Nat) : Int) (-1) (bi r') (bi true) v3 S1) = ja_X10_cut_L11 m 2 ((360 + n : Nat) : Int) (co none) (bi r') 1 ((360 + (k + 1) : Nat) : Int) S1 := by
            rw [hw]
            cases hmm : lx_mark (g (360 + k)) with
            | false => rfl
            | true =>
              rw [if_neg (show ¬ bi true = 0 by decide)]
              cases hrr : r' with
              | false => exact absurd ⟨hmm, hrr⟩ hm
              | true => rfl
          rw [e1]
          clear hw e1 hcl
          obtain ⟨S', c', p1, p2, p3, p4⟩ := ih m (k + 1) none r' (lx_cl o k ts) S1 c1 (by omega) (by omega) q4 q1 (by simp only [ol]; omega)
          exact ⟨S', c', p1, p2, cc_F_tr q5 p3, p4⟩
    · have hf2 : lx_fine (g (360 + k)) = false := by simpa using hf
      simp only [hf2, Bool.false_and, Bool.false_eq_true, if_false]
      rw [show bi false = 0 from rfl, hcl]
      have hm : lx_mark (g (360 + k)) = false := by
        unfold lx_fine at hf
        rw [decide_eq_true_eq] at hf
        unfold lx_mark
        rw [decide_eq_false_iff_not]
        omega
      obtain ⟨m, rfl⟩ : ∃ q, m = q + 1 := ⟨m - 1, by omega⟩
      refine ⟨S1, c1, ?_, q4, q5, by omega⟩
      unfold ja_X10_cut_b200
      rw [hm, show bi false = 0 from rfl, if_pos rfl, lt_eq]
      show ja_X10_cut_b11 (ja_X10_cut_L11 m) 2 _ (-1) _ 0 _ S1 = some (0, S1)
      unfold ja_X10_cut_b11
      rw [if_pos rfl]
      unfold ja_X10_cut_b226
      rw [if_pos (by decide), if_pos (by decide)]
