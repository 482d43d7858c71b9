/-! The reference calls: the end. -/
theorem fJ_mk {f : Nat → Option jW} {m c : Nat → Bool} : ∀ n, fJ f (fun b => m b && c b) n = fJ (fun b => if c b = true then f b else none) m n := by
  intro n
  induction n with
  | zero => rfl
  | succ n ih =>
    rw [fJ, fJ, ih]
    congr 1
    cases m n <;> cases c n <;> rfl
section RCE
variable {ns : List (List Int)} {us : List Int} {fl : List (List Int × Nat × Int)} {bl : List jB} {z : jL} {el : List (Nat × Nat × Nat × Nat)} {F : Int → Prop} {dn up : Int → Int} {H lc : Nat → Nat} {ty : Nat → Option (Nat → Int)} {th : Nat → Int} {n P m0 : Nat} {σ : jG} {i : Nat} {x : jC} {u : jQ} {S T : nk_S} {A R : jA} {D : Nat → Bool}
theorem rvT_m {t : Int} (h : t = 1 ∨ 2 ≤ t ∨ t = -1) : rvT t = -1 ↔ t = -1 := by
  unfold rvT
  by_cases c : t = -1
  · rw [c]
    exact ⟨fun _ => rfl, fun _ => by decide⟩
  · refine ⟨fun q => ?_, fun q => absurd q c⟩
    exfalso
    split at q
    · omega
    · split at q
      · omega
      · split at q
        · omega
        · split at q <;> omega
/-- what a call leaves -/
def cEO (σ : jG) (ends : Nat → Bool) (rs : Int) (X : jQ) (low : Nat) : Option jQ := if sEx ends = true then (if rs = -1 then some X else oB (fJ (fun c => σ.1 (2700 + c)) ends 54) fun l => some (qUp X low l)) else none
theorem r_cEnd (hP : P = 122 ∨ P = 168) {rc : Nat → Nat → Int → Int → Int → Int → Int → Int → Int → nk_S → Option (Int × nk_S)} {NB f low K : Nat} {l3 l4 l6 l8 rs : Int} (hf : f < 48) (hl : low < 24) {X : jQ} (hX : rX T low X) (hG : rGm T P σ) (hP2 : T.1 P 2 = (NB : Int)) (hrs : T.1 (P + 10) f = rvT rs) (hr : rs = 1 ∨ 2 ≤ rs ∨ rs = -1) {ends : Nat → Bool} (he : cV l8 ends) (hes : ∀ c, ends c = true → c < 48) (hk : ∀ c w, ends c = true → σ.1 (2700 + c) = some w → vBr F w ∧ w.1 = K) : ∃ S', ja_X13_call_b134 rc 121 P (f : Int) l3 l4 (low : Int) l6 l8 (NB : Int) T = some (bi (cEO σ ends rs X low).isSome, S') ∧ uFr T S' ∧ ∀ w, cEO σ ends rs X low = some w → rRw S' (low + (if rs = -1 then 0 else 1)) w := by
  have c17 : ja_c P 17 = P + 10 := by rcases hP with rfl | rfl <;> rfl
  obtain ⟨T1, hT1⟩ : ∃ T1, T1 = nk_wi T 121 25 (low : Int) := ⟨_, rfl⟩
  have f1 : uFr T T1 := by rw [hT1]; exact uFr_25
  have r1 : rRw T1 low X := ⟨by rw [hT1, wi_at, if_pos rfl], by rw [hT1]; exact rX_25 hX⟩
  have hz := cV_ex he (fun j q => by have := hes j q; omega)
  unfold ja_X13_call_b134 cEO
  rw [hP2, if_pos (Int.le_refl _), lt_eq, ← hT1]
  cases hs : sEx ends with
  | false =>
    rw [if_pos (hz.mpr hs), if_neg (by decide)]
    exact ⟨T1, rfl, f1, fun w q => by cases q⟩
  | true =>
    rw [if_neg (fun q => by rw [hz.mp q] at hs; cases hs), if_pos rfl, if_pos (in_i (N := 48) (by omega)), c17, Int.toNat_natCast, f1.2.1 (P + 10) (by omega) (by omega), hrs]
    by_cases c : rs = -1
    · rw [if_pos ((rvT_m hr).mpr c), if_pos c, if_pos c]
      exact ⟨T1, rfl, f1, fun w q => by cases q; exact r1⟩
    · rw [if_neg (fun q => c ((rvT_m hr).mp q)), if_neg c, if_neg c]
      obtain ⟨S', s1, s2, s3, s4, s5⟩ := r_lvals (S := T1) (F := F) hP hl r1 (fr := 3276) (ap := 1) (Or.inl rfl) (by omega) he (f := fun c => σ.1 (2700 + c)) (K := K) (fun k _ h2 => by
        have h48 := hes k h2
        refine ⟨by omega, ?_⟩
        have := hG.1 (2700 + k) (by omega)
        rw [show rIx (2700 + k) = 3276 + 1 * k by unfold rIx; rw [if_neg (by omega)]; omega] at this
        exact rVo_c (fun a h3 h4 => by rw [f1.2.1 a (by omega) (by omega)]) this) (fun k w _ h2 h3 => hk k w h2 h3)
      have s1 : ja_X13_leaveValues 121 P 3276 1 l8 T1 = some (bi (fJ (fun c => σ.1 (2700 + c)) ends 54).isSome, S') := s1
      rw [s1, bd_some]
      refine ⟨S', ?_, uFr_trans f1 s2, fun w q => ?_⟩
      · cases fJ (fun c => σ.1 (2700 + c)) ends 54 <;> rfl
      · obtain ⟨l, l1, l2⟩ := oB_some q
        cases l2
        rw [l1] at s5
        exact ⟨s3, rX_top r1.2 (fun a i h1 h2 h3 => s4 a i h1 h2 h3) s5⟩
/-- an instruction that calls -/
theorem rcal_at (hk : rKx F th n dn up ns us fl bl z el H lc ty P) (hx : z.1[i]? = some x) {t : Nat → Int} {xb : jB} {e : Nat × Nat × Nat × Nat} (hp : pAf ns us fl bl z el H lc i x t xb e) (hu : vOk F us z (lc i) t u) (hd : pKd bl x (H i) u) (ho : x.1 = 39 ∨ x.1 = 40) : ∃ (f c : Nat) (y : jB), x.2.1 = (f : Int) ∧ bl[f]? = some y ∧ y.me = decide (x.1 = 40) ∧ x.2.2.1 = (c : Int) ∧ 8 ≤ c ∧ c < us.length ∧ tkX bl x = y.ps.length ∧ lvX bl x = (if y.rs = -1 then 0 else 1) ∧ (y.rs = 1 ∨ 2 ≤ y.rs ∨ y.rs = -1) ∧ (∀ k, k < y.ps.length → ¬ (k = 0 ∧ x.1 = 40) → (y.ps.getD k 0 = 1 ∨ 2 ≤ y.ps.getD k 0) ∧ tV us (y.ps.getD k 0) ∧ vl1 F us z (y.ps.getD k 0) (wBr (u (12 + H i - tkX bl x + k)))) := by
  obtain ⟨⟨p1, p2, p3, p4, p5, p6⟩, ⟨c1, c2, c3⟩, -, -, -, ⟨d1, d2⟩, -, -, y1, y2⟩ := hp
  obtain ⟨f, c, y, q1, q2, q3, q4, q5, q6⟩ := p1.2.2.2.2.2.2.1 ho
  have hl := un_len hk.2.1 hx
  obtain ⟨hT, hs, hov, huO, h32, hh8, hz48, hin, hbd, hop⟩ := id hk.2.1
  have h8 := (hop i x hx).2.2.2 ho
  have e1 : tkX bl x = y.ps.length := by unfold tkX; rw [if_pos ho, q1, Int.toNat_natCast, q2]
  refine ⟨f, c, y, q1, q2, q3, q4, by omega, by omega, e1, ?_, ?_, fun k hk1 hk2 => ?_⟩
  · unfold lvX; rw [if_pos ho, q1, Int.toNat_natCast, q2]
  · rcases y2 y (List.mem_of_getElem? q2) with r | r
    · exact Or.inr (Or.inr r)
    · rcases r.2 with r | r
      · exact Or.inl r
      · exact Or.inr (Or.inl r)
  · obtain ⟨xb', e', M, X', b1, b2, b3, b4, b5, -⟩ := hin i x hx
    rw [p3] at b1
    cases b1
    rw [p4] at b2
    cases b2
    obtain ⟨f', c', y'', w1, w2, w3, w4, w5, w6, w7, w8, w9⟩ := told_v b5 p1 ho
    have hyy : y'' = y := by
      have : f' = f := by rw [q1] at w1; omega
      rw [this, q2] at w2
      cases w2; rfl
    subst hyy
    unfold tHo at d1
    rw [if_neg (by omega), if_neg (by omega), if_neg (by omega), if_pos ho] at d1
    have b1' := allR_at _ _ d1 k (by omega) (by omega)
    rw [w9 k hk2] at b1'
    have hvk : tV us (y''.ps.getD k 0) ∧ (y''.ps.getD k 0 = 1 ∨ 2 ≤ y''.ps.getD k 0) := by
      rcases w8 k hk1 with q | q
      · rw [w9 k hk2] at q; exact ⟨q.1, by omega⟩
      · rw [w9 k hk2] at q; rw [q]; unfold tV; exact ⟨by omega, Or.inl rfl⟩
    obtain ⟨v1, v2, v3⟩ := vOk_1 hu (12 + H i - tkX bl x + k)
    exact ⟨hvk.2, hvk.1, wBr_v ⟨v1, wTy_le huO h32 hs hvk.1 b1' v2, v3⟩ ((hd.2.2.2.2.2.2.2.2.2.1 ho).2 k (by omega))⟩
end RCE
