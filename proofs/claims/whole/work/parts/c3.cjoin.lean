/-! The class joins slots. -/
section CJN
variable {F : Int → Prop} {dn up : Int → Int}
theorem oN_inj {a c : Option Nat} (h : oN a = oN c) : a = c := by
  cases a with
  | none =>
    cases c with
    | none => rfl
    | some k => have h : 0 = k + 1 := h; omega
  | some j =>
    cases c with
    | none => have h : j + 1 = 0 := h; omega
    | some k =>
      have h : j + 1 = k + 1 := h
      congr 1
      omega
theorem bit4 : ∀ a : Nat, a < 16 → ∀ c : Nat, c < 16 → (∀ j, j < 4 → a.testBit j = c.testBit j) → a = c := by decide +kernel
/-- the facts tell kind, copy and sets -/
theorem fBt_inj {w w' : jW} (ho : wOk F w) (ho' : wOk F w') (h : ∀ j, j < 64 → fBt w j = fBt w' j) : w.1 = w'.1 ∧ w.2.2.2.1 = w'.2.2.2.1 ∧ w.2.2.2.2 = w'.2.2.2.2 := by
  have hk := wOk_k ho
  have hk' := wOk_k ho'
  have h52 := h 52 (by decide)
  have h53 := h 53 (by decide)
  unfold fBt at h52 h53
  rw [if_neg (by decide), if_neg (by decide), if_pos rfl, if_neg (by decide), if_neg (by decide), if_pos rfl] at h52
  rw [if_neg (by decide), if_neg (by decide), if_neg (by decide), if_pos rfl, if_neg (by decide), if_neg (by decide), if_neg (by decide), if_pos rfl] at h53
  have e1 := decide_eq_decide.mp h52
  have e2 := decide_eq_decide.mp h53
  refine ⟨by omega, ?_, ?_⟩
  · have b1 := oN_t ho.1
    have b2 := oN_t ho'.1
    apply oN_inj
    refine bit4 _ (by omega) _ (by omega) (fun j hj => ?_)
    have := h (48 + j) (by omega)
    unfold fBt at this
    rw [if_neg (by omega), if_pos (by omega), if_neg (by omega), if_pos (by omega), show 48 + j - 48 = j by omega] at this
    exact this
  · funext j
    by_cases c : j < 48
    · have := h j (by omega)
      unfold fBt at this
      rw [if_pos c, if_pos c] at this
      exact this
    · have a1 : w.2.2.2.2 j = false := by
        cases q : w.2.2.2.2 j with
        | false => rfl
        | true => exact absurd (ho.2.1 j q) c
      have a2 : w'.2.2.2.2 j = false := by
        cases q : w'.2.2.2.2 j with
        | false => rfl
        | true => exact absurd (ho'.2.1 j q) c
      rw [a1, a2]
theorem cSt_inj (hT : thG F dn up) {v f : Int} {w w' : jW} (ho : wOk F w) (ho' : wOk F w') (h : cSt v f w) (h' : cSt v f w') : w = w' := by
  obtain ⟨e1, e2, e3⟩ := fBt_inj ho ho' (fun j hj => by rw [← h.1.2 j hj, ← h'.1.2 j hj])
  have hk := wOk_k ho
  have hc : w.1 = 0 ∨ w.1 = 1 ∨ w.1 = 2 := by omega
  rcases hc with q | q | q
  · rw [wOk_0 ho q, wOk_0 ho' (by omega)]
  · obtain ⟨r1, r2⟩ := wOk_1 ho q
    obtain ⟨r1', r2'⟩ := wOk_1 ho' (by omega)
    have hp : pk w.2.1 = pk w'.2.1 := by rw [← h.2.2.1 q, ← h'.2.2.1 (by omega)]
    have hr := pk_inj (hT.1 _ r1.1) (hT.1 _ r1.2.1) (hT.1 _ r1'.1) (hT.1 _ r1'.2.1) hp
    exact Prod.ext e1 (Prod.ext hr (Prod.ext (by rw [r2, r2']) (Prod.ext e2 e3)))
  · obtain ⟨r1, r2, r3⟩ := wOk_2 ho q
    obtain ⟨r1', r2', r3'⟩ := wOk_2 ho' (by omega)
    have hs : w.2.2.1 = w'.2.2.1 := by
      funext j
      by_cases c : j < 64
      · rw [← (h.2.2.2 q).2 j c, ← (h'.2.2.2 (by omega)).2 j c]
      · have a1 : w.2.2.1 j = false := by
          cases p : w.2.2.1 j with
          | false => rfl
          | true => have := r3 j p; omega
        have a2 : w'.2.2.1 j = false := by
          cases p : w'.2.2.1 j with
          | false => rfl
          | true => have := r3' j p; omega
        rw [a1, a2]
    exact Prod.ext e1 (Prod.ext (by rw [r1, r1']) (Prod.ext hs (Prod.ext e2 e3)))
theorem c_joinR {a c : jR} (ha : iR2 a) (hc : iR2 c) (S : nk_S) : ja_X5_join (pk a) (pk c) S = some (pk (rJn c a), S) := by
  unfold ja_X5_join ja_X5_join_b36 ja_X5_join_b54 rJn
  rw [pk_lo ha.1, pk_lo hc.1, pk_hi ha.2, pk_hi hc.2]
  simp only [lt_eq]
  by_cases q1 : c.1 ≤ a.1
  · rw [if_pos q1, Int.min_eq_left q1]
    by_cases q2 : a.2 ≤ c.2
    · rw [if_pos q2, Int.max_eq_left q2, pk_e hc.1]
    · rw [if_neg q2, Int.max_eq_right (by omega), pk_e hc.1]
  · rw [if_neg q1, Int.min_eq_right (by omega)]
    by_cases q2 : a.2 ≤ c.2
    · rw [if_pos q2, Int.max_eq_left q2, pk_e ha.1]
    · rw [if_neg q2, Int.max_eq_right (by omega), pk_e ha.1]
theorem rJn_comm (a c : jR) : rJn a c = rJn c a := by
  unfold rJn
  rw [Int.min_comm, Int.max_comm]
theorem fBt_k {w : jW} : fBt w 52 = decide (w.1 = 1) ∧ fBt w 53 = decide (w.1 = 2) := by
  unfold fBt
  constructor
  · rw [if_neg (by decide), if_neg (by decide), if_pos rfl]
  · rw [if_neg (by decide), if_neg (by decide), if_neg (by decide), if_pos rfl]
/-- the facts of a join -/
theorem c_jfact (hT : thG F dn up) {f g : Int} {w0 w1 : jW} (h0 : wOk F w0) (h1 : wOk F w1) (hf : cV f (fBt w1)) (hg : cV g (fBt w0)) : ∃ nf, cV nf (fBt (wJn w0 w1)) ∧ ∀ (p v : Int) (S : nk_S), (if (nk_land (nk_lxor f g) 4222124650659840) = 0 then ja_X7_joinSlot_b41 93 p v f g 4222124650659840 S else ja_X7_joinSlot_b41 93 p v f g 0 S) = ja_X7_joinSlot_b73 93 p v g nf S := by
  have k0 := wOk_k h0
  have k1 := wOk_k h1
  -- the masks
  have hx : ∀ (m : Int) (s : Nat → Bool), (∀ j, j < 64 → lb m j = s j) → cV (nk_land (nk_lxor f g) m) (fun j => (fBt w1 j ^^ fBt w0 j) && s j) := fun m s hm => ⟨lR_and _ _, fun j hj => by rw [lb_and, lb_xor, hf.2 j hj, hg.2 j hj, hm j hj]⟩
  have hkd := hx _ _ lk_kd
  have hcp := hx _ _ lk_cp
  have kz : nk_land (nk_lxor f g) 13510798882111488 = 0 ↔ w0.1 = w1.1 := by
    rw [cV_z hkd]
    constructor
    · intro h
      have a := h 52 (by decide)
      have c := h 53 (by decide)
      rw [fBt_k.1, fBt_k.1] at a
      rw [fBt_k.2, fBt_k.2] at c
      have a' : (decide (w1.1 = 1) ^^ decide (w0.1 = 1)) = false := by simpa using a
      have c' : (decide (w1.1 = 2) ^^ decide (w0.1 = 2)) = false := by simpa using c
      by_cases q1 : w1.1 = 1
      · by_cases q2 : w0.1 = 1
        · omega
        · rw [decide_eq_true q1, decide_eq_false q2] at a'; cases a'
      · by_cases q2 : w0.1 = 1
        · rw [decide_eq_false q1, decide_eq_true q2] at a'; cases a'
        · by_cases r1 : w1.1 = 2
          · by_cases r2 : w0.1 = 2
            · omega
            · rw [decide_eq_true r1, decide_eq_false r2] at c'; cases c'
          · by_cases r2 : w0.1 = 2
            · rw [decide_eq_false r1, decide_eq_true r2] at c'; cases c'
            · omega
    · intro h j hj
      by_cases q1 : j = 52
      · rw [q1, fBt_k.1, fBt_k.1, h]; cases decide (w1.1 = 1) <;> rfl
      · by_cases q2 : j = 53
        · rw [q2, fBt_k.2, fBt_k.2, h]; cases decide (w1.1 = 2) <;> rfl
        · rw [decide_eq_false q1, decide_eq_false q2]; exact Bool.and_false _
  have cz : nk_land (nk_lxor f g) 4222124650659840 = 0 ↔ w0.2.2.2.1 = w1.2.2.2.1 := by
    rw [cV_z hcp]
    have fc : ∀ (w : jW) (j : Nat), 48 ≤ j → j < 52 → fBt w j = (oN w.2.2.2.1).testBit (j - 48) := by
      intro w j a c
      unfold fBt
      rw [if_neg (by omega), if_pos c]
    constructor
    · intro h
      have b1 := oN_t h0.1
      have b2 := oN_t h1.1
      apply oN_inj
      refine bit4 _ (by omega) _ (by omega) (fun j hj => ?_)
      have := h (48 + j) (by omega)
      rw [fc w1 _ (by omega) (by omega), fc w0 _ (by omega) (by omega), decide_eq_true (show 48 ≤ 48 + j by omega), decide_eq_true (show 48 + j < 52 by omega), show 48 + j - 48 = j by omega] at this
      have this' : ((oN w1.2.2.2.1).testBit j ^^ (oN w0.2.2.2.1).testBit j) = false := by simpa using this
      cases q1 : (oN w1.2.2.2.1).testBit j <;> cases q2 : (oN w0.2.2.2.1).testBit j <;> rw [q1, q2] at this' <;> first | rfl | cases this'
    · intro h j hj
      by_cases q : 48 ≤ j ∧ j < 52
      · rw [fc w1 j q.1 q.2, fc w0 j q.1 q.2, h]
        cases (oN w1.2.2.2.1).testBit (j - 48) <;> rfl
      · by_cases q1 : 48 ≤ j
        · rw [decide_eq_false (show ¬ j < 52 by omega), Bool.and_false]; exact Bool.and_false _
        · rw [decide_eq_false q1]; exact Bool.and_false _
  -- the common facts
  have hand : ∀ (c : Int) (s : Nat → Bool), (∀ j, j < 64 → lb c j = s j) → cV (nk_land (nk_land f g) (nk_lor 13792273858822143 c)) (fun j => (fBt w1 j && fBt w0 j) && ((decide (j < 48) || decide (j = 52) || decide (j = 53)) || s j)) := fun c s hc => ⟨lR_and _ _, fun j hj => by rw [lb_and, lb_and, lb_or, hf.2 j hj, hg.2 j hj, lk_ks j hj, hc j hj]⟩
  by_cases ck : w0.1 = w1.1
  · have ek := kz.mpr ck
    -- the result for a mask
    have res : ∀ (c : Int) (s : Nat → Bool), (∀ j, j < 64 → lb c j = s j) → (∀ j, j < 48 ∨ 52 ≤ j → s j = false) → (w0.2.2.2.1 = w1.2.2.2.1 → ∀ j, 48 ≤ j → j < 52 → s j = true) → (w0.2.2.2.1 ≠ w1.2.2.2.1 → ∀ j, s j = false) → cV (nk_land (nk_land f g) (nk_lor 13792273858822143 c)) (fBt (wJn w0 w1)) := by
      intro c s hc s1 s2 s3
      obtain ⟨r1, r2⟩ := hand c s hc
      refine ⟨r1, fun j hj => ?_⟩
      rw [r2 j hj]
      dsimp only
      by_cases z0 : w0.1 = 0
      · have a0 := wOk_0 h0 z0
        have a1 := wOk_0 h1 (by omega)
        have ej : wJn w0 w1 = wU := by rw [a0, a1]; rfl
        rw [ej, a0, a1]
        have := fBt_U.2 j hj
        rw [lb_0] at this
        rw [← this]; rfl
      · have ej : wJn w0 w1 = (w0.1, rJn w0.2.1 w1.2.1, sOr w0.2.2.1 w1.2.2.1, (if w0.2.2.2.1 = w1.2.2.2.1 then w0.2.2.2.1 else none), sAnd w0.2.2.2.2 w1.2.2.2.2) := by
          unfold wJn; rw [if_pos ⟨ck, z0⟩]
        rw [ej]
        unfold fBt
        dsimp only
        by_cases c1 : j < 48
        · rw [if_pos c1, if_pos c1, if_pos c1, decide_eq_true c1]
          show ((w1.2.2.2.2 j && w0.2.2.2.2 j) && true) = (w0.2.2.2.2 j && w1.2.2.2.2 j)
          rw [Bool.and_true, Bool.and_comm]
        · rw [if_neg c1, if_neg c1, if_neg c1, decide_eq_false c1]
          by_cases c2 : j < 52
          · rw [if_pos c2, if_pos c2, if_pos c2, decide_eq_false (show ¬ j = 52 by omega), decide_eq_false (show ¬ j = 53 by omega)]
            by_cases c3 : w0.2.2.2.1 = w1.2.2.2.1
            · rw [if_pos c3, s2 c3 j (by omega) c2, c3]
              show ((_ && _) && true) = _
              rw [Bool.and_true, Bool.and_self]
            · rw [if_neg c3, s3 c3 j]
              show (_ && false) = (0 : Nat).testBit (j - 48)
              rw [Bool.and_false, Nat.zero_testBit]
          · rw [if_neg c2, if_neg c2, if_neg c2, s1 j (by omega)]
            by_cases c3 : j = 52
            · rw [if_pos c3, if_pos c3, decide_eq_true c3, ck]
              show ((_ && _) && true) = _
              rw [Bool.and_true, Bool.and_self]
            · rw [if_neg c3, if_neg c3]
              by_cases c4 : j = 53
              · rw [if_pos c4, if_pos c4, decide_eq_false c3, decide_eq_true c4, ck]
                show ((_ && _) && true) = _
                rw [Bool.and_true, Bool.and_self]
              · rw [if_neg c4, if_neg c4]
                rfl
    by_cases cc : w0.2.2.2.1 = w1.2.2.2.1
    · refine ⟨_, res 4222124650659840 _ lk_cp (fun j hj => ?_) (fun _ j a c => by rw [decide_eq_true a, decide_eq_true c]; rfl) (fun q => absurd cc q), fun p v S => ?_⟩
      · rcases hj with q | q
        · rw [decide_eq_false (show ¬ 48 ≤ j by omega)]; rfl
        · rw [decide_eq_false (show ¬ j < 52 by omega), Bool.and_false]
      · rw [if_pos (cz.mpr cc)]
        unfold ja_X7_joinSlot_b41
        rw [if_pos ek]
    · refine ⟨_, res 0 noS (fun j _ => by rw [lb_0]; rfl) (fun _ _ => rfl) (fun q => absurd q cc) (fun _ _ => rfl), fun p v S => ?_⟩
      rw [if_neg (fun q => cc (cz.mp q))]
      unfold ja_X7_joinSlot_b41
      rw [if_pos ek]
  · refine ⟨0, ?_, fun p v S => ?_⟩
    · have ej : wJn w0 w1 = wU := by unfold wJn; rw [if_neg (fun q => ck q.1)]
      rw [ej]; exact fBt_U
    · unfold ja_X7_joinSlot_b41
      have hk' : ¬ nk_land (nk_lxor f g) 13510798882111488 = 0 := fun q => ck (kz.mp q)
      rw [if_neg hk', if_neg hk', ite_self]
/-- the class joins a slot -/
theorem c_jslot (hT : thG F dn up) {S : nk_S} {p : Nat} (hp : p < 20480) {v f : Int} {w0 w1 : jW} (h0 : wOk F w0) (h1 : wOk F w1) (hv : cSt v f w1) (hs : cSt (S.1 94 p) (S.1 95 p) w0) : ∃ S' c, ja_X7_joinSlot 93 (p : Int) v f 0 S = some (bi c, S') ∧ S'.2 = S.2 ∧ (∀ a, a ≠ 94 → a ≠ 95 → S'.1 a = S.1 a) ∧ (∀ q, q ≠ p → S'.1 94 q = S.1 94 q ∧ S'.1 95 q = S.1 95 q) ∧ cSt (S'.1 94 p) (S'.1 95 p) (wJn w0 w1) ∧ (c = true ↔ wJn w0 w1 ≠ w0) := by
  obtain ⟨nf, n1, n2⟩ := c_jfact hT h0 h1 hv.1 hs.1
  have hin : (0 : Int) ≤ (p : Int) ∧ (p : Int) < 20480 := in_i (N := 20480) (by omega)
  have hj := wJn_ok h0 h1
  have k0 := wOk_k h0
  have k1 := wOk_k h1
  -- with the value known
  have fin : ∀ nv, cSt nv nf (wJn w0 w1) → ∃ S' c, ja_X7_joinSlot_b122 93 (p : Int) nf (S.1 95 p) nv S = some (bi c, S') ∧ S'.2 = S.2 ∧ (∀ a, a ≠ 94 → a ≠ 95 → S'.1 a = S.1 a) ∧ (∀ q, q ≠ p → S'.1 94 q = S.1 94 q ∧ S'.1 95 q = S.1 95 q) ∧ cSt (S'.1 94 p) (S'.1 95 p) (wJn w0 w1) ∧ (c = true ↔ wJn w0 w1 ≠ w0) := by
    intro nv hn
    have e146 : ja_X7_joinSlot_b146 93 (p : Int) nf nv S = some (bi true, nk_wi (nk_wi S 94 p nv) 95 p nf) := by
      unfold ja_X7_joinSlot_b146
      rw [if_pos hin, lt_eq, lt_eq, jc_93_0, jc_93_1, Int.toNat_natCast]; rfl
    have w146 : wJn w0 w1 ≠ w0 → ∃ S' c, ja_X7_joinSlot_b146 93 (p : Int) nf nv S = some (bi c, S') ∧ S'.2 = S.2 ∧ (∀ a, a ≠ 94 → a ≠ 95 → S'.1 a = S.1 a) ∧ (∀ q, q ≠ p → S'.1 94 q = S.1 94 q ∧ S'.1 95 q = S.1 95 q) ∧ cSt (S'.1 94 p) (S'.1 95 p) (wJn w0 w1) ∧ (c = true ↔ wJn w0 w1 ≠ w0) := by
      intro hne
      refine ⟨_, true, e146, rfl, fun a x y => by rw [wi_n y, wi_n x], fun q hq => ?_, ?_, ⟨fun _ => hne, fun _ => rfl⟩⟩
      · rw [wi_n (by decide), wi_at, if_neg hq, wi_at, if_neg hq, wi_n (by decide)]; exact ⟨rfl, rfl⟩
      · rw [wi_n (by decide), wi_at, if_pos rfl, wi_at, if_pos rfl]; exact hn
    unfold ja_X7_joinSlot_b122
    by_cases c1 : nf = S.1 95 p
    · rw [if_pos c1, if_pos hin, jc_93_0, Int.toNat_natCast]
      by_cases c2 : nv = S.1 94 p
      · rw [if_pos c2]
        have e : wJn w0 w1 = w0 := cSt_inj hT hj h0 hn (by rw [c1, c2]; exact hs)
        refine ⟨S, false, rfl, rfl, fun _ _ _ => rfl, fun _ _ => ⟨rfl, rfl⟩, by rw [e]; exact hs, ⟨(fun q => by cases q), fun q => absurd e q⟩⟩
      · rw [if_neg c2]
        refine w146 (fun e => c2 ?_)
        rw [e] at hn
        exact (cSt_u k0 hn hs).1
    · rw [if_neg c1]
      refine w146 (fun e => c1 ?_)
      rw [e] at hn
      exact (cSt_u k0 hn hs).2
  have hstart : ja_X7_joinSlot 93 (p : Int) v f 0 S = ja_X7_joinSlot_b73 93 (p : Int) v (S.1 95 p) nf S := by
    unfold ja_X7_joinSlot
    rw [if_pos rfl, if_pos hin, lt_eq, jc_93_1, Int.toNat_natCast]
    exact n2 (p : Int) v S
  rw [hstart]
  have z52 : nk_land nf 4503599627370496 = 0 ↔ (wJn w0 w1).1 ≠ 1 := by
    have hc : cV (nk_land nf 4503599627370496) (fun j => fBt (wJn w0 w1) j && onS 52 j) := ⟨lR_and _ _, fun j hj' => by rw [lb_and, n1.2 j hj', lk_52 j hj']⟩
    rw [cV_z hc]
    constructor
    · intro h q
      have := h 52 (by decide)
      rw [fBt_k.1, decide_eq_true q] at this
      cases this
    · intro h j hj'
      by_cases c : j = 52
      · rw [c, fBt_k.1, decide_eq_false h]; rfl
      · unfold onS; rw [decide_eq_false c, Bool.and_false]
  have z53 : nk_land nf 9007199254740992 = 0 ↔ (wJn w0 w1).1 ≠ 2 := by
    have hc : cV (nk_land nf 9007199254740992) (fun j => fBt (wJn w0 w1) j && onS 53 j) := ⟨lR_and _ _, fun j hj' => by rw [lb_and, n1.2 j hj', lk_53 j hj']⟩
    rw [cV_z hc]
    constructor
    · intro h q
      have := h 53 (by decide)
      rw [fBt_k.2, decide_eq_true q] at this
      cases this
    · intro h j hj'
      by_cases c : j = 53
      · rw [c, fBt_k.2, decide_eq_false h]; rfl
      · unfold onS; rw [decide_eq_false c, Bool.and_false]
  have kj : (wJn w0 w1).1 ≠ 0 → w0.1 = w1.1 ∧ w0.1 = (wJn w0 w1).1 ∧ wJn w0 w1 = (w0.1, rJn w0.2.1 w1.2.1, sOr w0.2.2.1 w1.2.2.1, (if w0.2.2.2.1 = w1.2.2.2.1 then w0.2.2.2.1 else none), sAnd w0.2.2.2.2 w1.2.2.2.2) := by
    intro q
    by_cases c : w0.1 = w1.1 ∧ w0.1 ≠ 0
    · have e : wJn w0 w1 = (w0.1, rJn w0.2.1 w1.2.1, sOr w0.2.2.1 w1.2.2.1, (if w0.2.2.2.1 = w1.2.2.2.1 then w0.2.2.2.1 else none), sAnd w0.2.2.2.2 w1.2.2.2.2) := by unfold wJn; rw [if_pos c]
      exact ⟨c.1, by rw [e], e⟩
    · have e : wJn w0 w1 = wU := by unfold wJn; rw [if_neg c]
      rw [e] at q; exact absurd rfl q
  unfold ja_X7_joinSlot_b73
  by_cases c1 : (wJn w0 w1).1 = 1
  · rw [if_neg (fun q => (z52.mp q) c1), if_pos hin, jc_93_0, Int.toNat_natCast]
    obtain ⟨q1, q2, q3⟩ := kj (by omega)
    have r0 := (wOk_1 h0 (by omega)).1
    have r1 := (wOk_1 h1 (by omega)).1
    rw [hv.2.2.1 (by omega), hs.2.2.1 (by omega), c_joinR (rOk_iR hT r1) (rOk_iR hT r0), bd_some]
    refine fin _ ⟨n1, fun q => by omega, fun _ => by rw [q3], fun q => by omega⟩
  · rw [if_pos (z52.mpr c1)]
    by_cases c2 : (wJn w0 w1).1 = 2
    · rw [if_neg (fun q => (z53.mp q) c2), if_pos hin, jc_93_0, Int.toNat_natCast]
      obtain ⟨q1, q2, q3⟩ := kj (by omega)
      refine fin _ ⟨n1, fun q => by omega, fun q => by omega, fun _ => ?_⟩
      have e : (wJn w0 w1).2.2.1 = sOr w1.2.2.1 w0.2.2.1 := by
        rw [q3]
        funext j
        show (w0.2.2.1 j || w1.2.2.1 j) = (w1.2.2.1 j || w0.2.2.1 j)
        exact Bool.or_comm _ _
      rw [e]
      exact cV_or (hv.2.2.2 (by omega)) (hs.2.2.2 (by omega))
    · rw [if_pos (z53.mpr c2)]
      have hk := wOk_k hj
      exact fin 0 ⟨n1, fun _ => rfl, fun q => absurd q c1, fun q => absurd q c2⟩
theorem c_jfresh {S : nk_S} {p : Nat} (hp : p < 20480) (v f : Int) : ja_X7_joinSlot 93 (p : Int) v f 1 S = some (1, nk_wi (nk_wi S 94 p v) 95 p f) := by
  unfold ja_X7_joinSlot ja_X7_joinSlot_b146
  rw [if_neg (by decide), if_pos (in_i (N := 20480) (by omega)), lt_eq, lt_eq, jc_93_0, jc_93_1, Int.toNat_natCast]
end CJN
