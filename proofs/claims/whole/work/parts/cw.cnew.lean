/-! The class makes objects, whole; it enters bodies that are called. -/
section CNW
variable {F : Int → Prop} {S : nk_S} {Q : Nat} {p : jP} {H lc : Nat → Nat} {us : List Int} {fl : List (List Int × Nat × Int)} {bl : List jB} {z : jL} {t : Nat → Int} {u : jQ} {i : Nat} {x : jC} {G : jZ} {σ : jG} {C : jH} {l h : Nat} {th : Nat → Int} {n : Nat}
theorem c_new (hQ : Q = 13 ∨ Q = 49) (hT : thG F (zDn G) (zUp G)) (hF : thN F th n) (hv : cPv S Q p H lc) (hu : uOk us) (h32 : us.length ≤ 32) (hup : us = p.2.1) (hflp : fl = p.2.2.1) (hz : oJL p.2.2.2.2.1) (hx : p.2.2.2.2.1.1[i]? = some x) (hfl : fl.length ≤ 48) (hz48 : z.2.1.length ≤ 48) {st : Nat} (hxs : x.2.2.1 = (st : Int)) (hst : st < 48) {c : Nat} (hc : c < us.length) (hxc : x.2.1 = (c : Int)) (hty : ∀ (f : Nat) (y : List Int × Nat × Int), fl[f]? = some y → y.2.1 < 32 ∧ (y.2.2 = 1 ∨ 2 ≤ y.2.2) ∧ vl1 F us z y.2.2 (wNl y.2.2)) (hr : cRw (lc i) (H i) S u) (h8 : H i < 8) (ho : x.1 = 30) (hg : gOk F us fl bl z σ) (hm : cGm S fl bl z σ C) : ∃ S' C' v, ja_X4_makesObject 92 (i : Int) S = some (1, S') ∧ kFr S S' ∧ (∀ r s, cRs S r s → cRs S' r s) ∧ pGo G σ x (H i) u = some v ∧ cRw (lc i) (H i + 1) S' v ∧ cGm S' fl bl z (nwG us fl st c σ fl.length) C' ∧ gCg th n σ (nwG us fl st c σ fl.length) C C' := by
  have hi : i < 1024 := by
    have := (List.getElem?_eq_some_iff.mp hx).1
    have := hz.1
    omega
  have hcd := hv.2.2.1.2.2.2.2.2.2.2.2.1.1.2 i x hx
  obtain ⟨bm, hbm⟩ := big_ge 100 (by decide)
  obtain ⟨S', C', s1, s2, s3, s4, s5, s6⟩ := c_newL (σ := σ) (C := C) (bl := bl) hQ hT hF hv hu h32 hup hflp hz hx hfl hz48 hst hc hxc hty hr h8 fl.length 0 nk_big S C (by omega) (by omega) sFr_rfl hg hm gCg_rfl
  have s1' : ja_X4_makesObject_L21 nk_big 92 (i : Int) (Q + 1) (st : Int) 0 S = some (1, S') := s1
  refine ⟨S', C', _, ?_, s2, s3, ?_, s4, s5, s6⟩
  · unfold ja_X4_makesObject
    rw [if_pos (in_i (N := 1024) (by omega)), hv.1, (jc_Qp hQ).2.2.2.1, (jc_Q hQ).1, Int.toNat_natCast, hcd.2.2.1, hxs, lt_eq, s1']
  · unfold pGo
    rw [if_neg (by omega), if_neg (by omega), if_neg (by omega), if_neg (by omega), if_neg (by omega), if_neg (by omega), if_neg (by omega), if_neg (by omega), if_neg (by omega), if_neg (by omega), if_pos ho, hxs, Int.toNat_natCast]
/-- what a called body brings: thrown, whether it ends, its result -/
theorem c_enB (hQ : Q = 13 ∨ Q = 49) (hT : thG F (zDn G) (zUp G)) (hg : gOk F us fl bl z σ) (hm : cGm S fl bl z σ C) {b : Nat} {y : jB} (hbl : bl.length ≤ 48) (hb : bl[b]? = some y) {ty : Int} (ht : ty = 1 ∨ 2 ≤ ty ∨ ty = -1) (hty : y.rs = ty) {o : Option jW} (ho : ∀ w, o = some w → vl1 F us z ty w) (ho1 : ty = -1 → o = none) (hen : ty = -1 → σ.1 (2700 + b) = none) (h12 : cVl ty (S.1 92 12) o) : ∃ S', ja_X4_enterBody_b88 92 (b : Int) (bi (decide (ty = 1))) S = some (0, S') ∧ S'.2 = S.2 ∧ (∀ a, a ≠ 92 → S'.1 a = S.1 a) ∧ (∀ f, f ≠ 12 → f ≠ 13 → S'.1 92 f = S.1 92 f) ∧ S'.1 92 13 = (if σ.2.1 b = true then 1 else S.1 92 13) ∧ cVl ty (S'.1 92 12) (oJ o (if σ.2.1 b = true then σ.1 (2700 + b) else none)) := by
  have hb48 := bl_48 hbl hb
  obtain ⟨m1, m2, m3⟩ := hm.2.2.2.1 b y hb
  rw [hty] at m1
  unfold ja_X4_enterBody_b88
  rw [if_pos (in_i (N := 48) (by omega)), jc_92_3, jc_100_4, jc_100_3, Int.toNat_natCast, m2]
  cases he : σ.2.1 b with
  | false =>
    rw [if_pos (show bi false = 0 from rfl), if_neg (by decide), if_neg (by decide), oJ_n]
    exact ⟨S, rfl, rfl, fun _ _ => rfl, fun _ _ _ => rfl, rfl, h12⟩
  | true =>
    rw [if_neg (show ¬ bi true = 0 by decide), if_pos rfl, if_pos rfl, lt_eq]
    have e12 : (nk_wi S 92 13 1).1 92 12 = S.1 92 12 := by rw [wi_at, if_neg (by decide)]
    have e104 : (nk_wi S 92 13 1).1 104 = S.1 104 := wi_n (by decide)
    rw [e12, e104]
    obtain ⟨r, r1, r2⟩ : ∃ r, ja_X8_join (S.1 92 12) (S.1 104 b) (bi (decide (ty = 1))) (nk_wi S 92 13 1) = some (r, nk_wi S 92 13 1) ∧ cVl ty r (oJ o (σ.1 (2700 + b))) := by
      rcases ht with q | q | q
      · exact c_vjoin0 hT (Or.inl q) ho (fun w' h' => by have := (hg.1 _ _ h').2; rw [zT_r hb, hty] at this; exact this) h12 m1 _
      · exact c_vjoin0 hT (Or.inr q) ho (fun w' h' => by have := (hg.1 _ _ h').2; rw [zT_r hb, hty] at this; exact this) h12 m1 _
      · have hn : ¬ ty = 1 := by omega
        rw [ho1 q, hen q] at *
        unfold cVl at h12 m1 ⊢
        rw [if_neg hn] at h12 m1
        refine ⟨nk_lor (S.1 92 12) (S.1 104 b), ?_, ?_⟩
        · unfold ja_X8_join
          rw [decide_eq_false hn, if_pos (show bi false = 0 from rfl)]
        · rw [if_neg hn]
          exact cV_e (cV_or h12 m1) (fun j _ => rfl)
    rw [r1, bd_some, lt_eq]
    refine ⟨_, rfl, rfl, fun a ha => by rw [wi_n ha, wi_n ha], fun f h1 h2 => by rw [wi_at, if_neg h1, wi_at, if_neg h2], by rw [wi_at, if_neg (by decide), wi_at, if_pos rfl], by rw [wi_at, if_pos rfl]; exact r2⟩
end CNW
