/-! All that is known of a right program; the class proves it. -/
def pH (p : jP) (i : Nat) : Nat := match p.2.2.2.2.1.1[i]? with
  | none => 0
  | some x => match p.2.2.2.2.2[x.2.2.2.1]? with
    | none => 0
    | some e => hgt (hMs p.2.2.2.1 p.2.2.2.2.1 e i)
def pLc (p : jP) (i : Nat) : Nat := match p.2.2.2.2.1.1[i]? with
  | none => 0
  | some x => match p.2.2.2.1[x.2.2.2.1]? with
    | none => 0
    | some y => y.lc.toNat
noncomputable def pTy (p : jP) (i : Nat) : Option (Nat → Int) := match p.2.2.2.2.1.1[i]? with
  | none => none
  | some x => match p.2.2.2.1[x.2.2.2.1]?, p.2.2.2.2.2[x.2.2.2.1]? with
    | some y, some e => tLS p.2.1 p.2.2.1 p.2.2.2.1 p.2.2.2.2.1 x.2.2.2.1 y (hMs p.2.2.2.1 p.2.2.2.2.1 e) e i
    | _, _ => none
def pFr1 (p : jP) (y : Int) : Prop := th7 y ∨ ∃ x ∈ p.2.2.2.2.1.2.2.2, nbr x y
section PKN
variable {tx : List (List Int)} {p : jP}
theorem pH_at {i b : Nat} {x : jC} {e : Nat × Nat × Nat × Nat} (hx : p.2.2.2.2.1.1[i]? = some x) (hb : x.2.2.2.1 = b) (he : p.2.2.2.2.2[b]? = some e) : pH p i = hgt (hMs p.2.2.2.1 p.2.2.2.2.1 e i) := by
  unfold pH
  rw [hx]
  dsimp only
  rw [hb, he]
theorem pLc_at {i b : Nat} {x : jC} {y : jB} (hx : p.2.2.2.2.1.1[i]? = some x) (hb : x.2.2.2.1 = b) (hy : p.2.2.2.1[b]? = some y) : pLc p i = y.lc.toNat := by
  unfold pLc
  rw [hx]
  dsimp only
  rw [hb, hy]
theorem pTy_at {i b : Nat} {x : jC} {y : jB} {e : Nat × Nat × Nat × Nat} (hx : p.2.2.2.2.1.1[i]? = some x) (hb : x.2.2.2.1 = b) (hy : p.2.2.2.1[b]? = some y) (he : p.2.2.2.2.2[b]? = some e) : pTy p i = tLS p.2.1 p.2.2.1 p.2.2.2.1 p.2.2.2.2.1 b y (hMs p.2.2.2.1 p.2.2.2.2.1 e) e i := by
  unfold pTy
  rw [hx]
  dsimp only
  rw [hb, hy, he]
theorem pH_8 (i : Nat) : pH p i ≤ 8 := by
  unfold pH
  split
  · omega
  · split
    · omega
    · exact hgt_8 _
theorem pLc_12 (h : pWf tx p) (i : Nat) : pLc p i ≤ 12 := by
  unfold pLc
  split
  · omega
  · split
    · omega
    · rename_i y hy
      have := (h.1.2.2.2.2.2.2.2.1 y (List.mem_of_getElem? hy)).2.2.2.2.2
      omega
theorem fWs_n : ∀ (d b : Nat), fWs p d b = none → ∀ b', b ≤ b' → b' < b + d → fBn p b' = none := by
  intro d
  induction d with
  | zero => intro b _ b' h1 h2; omega
  | succ d ih =>
    intro b h b' h1 h2
    rw [fWs] at h
    cases hq : fBn p b with
    | some i => rw [hq] at h; cases h
    | none =>
      rw [hq] at h
      by_cases e : b' = b
      · rw [e]; exact hq
      · exact ih (b + 1) h b' (by omega) (by omega)
theorem tFw_n {us : List Int} {fl : List (List Int × Nat × Int)} {bl : List jB} {z : jL} {xb : jB} {M : Nat → Nat} {X : jX} : ∀ (d i : Nat), tFw us fl bl z xb M X d i = none → ∀ j x u, i ≤ j → j < i + d → z.1[j]? = some x → X j = some u → tHo us fl bl xb x (hgt (M j)) u = true := by
  intro d
  induction d with
  | zero => intro i _ j x u h1 h2; omega
  | succ d ih =>
    intro i h j x u h1 h2 hx hu
    rw [tFw] at h
    by_cases e : j = i
    · subst e
      rw [hx, hu] at h
      dsimp only at h
      split at h
      · assumption
      · cases h
    · refine ih (i + 1) ?_ j x u (by omega) (by omega) hx hu
      split at h
      · split at h
        · exact h
        · cases h
      · exact h
/-- the types of a body that suit -/
theorem p_types {Q : Nat} (hQ : Q = 13 ∨ Q = 49) (h : pWf tx p) (hn : fWs p p.2.2.2.1.length 0 = none) {S : nk_S} (hp : cPg S Q p) (h0 : S.2 86 0 = Q) (h1 : S.2 86 1 = Q + 1) (hh : cHt S Q p p.2.2.2.1.length) {b : Nat} {xb : jB} {e : Nat × Nat × Nat × Nat} (hx : p.2.2.2.1[b]? = some xb) (he : p.2.2.2.2.2[b]? = some e) : tCx p.1 p.2.1 p.2.2.1 p.2.2.2.1 p.2.2.2.2.1 b xb e (hMs p.2.2.2.1 p.2.2.2.2.1 e) ∧ tInv p.2.1 p.2.2.1 p.2.2.2.1 p.2.2.2.2.1 b xb (hMs p.2.2.2.1 p.2.2.2.2.1 e) e (tLS p.2.1 p.2.2.1 p.2.2.2.1 p.2.2.2.2.1 b xb (hMs p.2.2.2.1 p.2.2.2.2.1 e) e) ∧ (∀ i, tCl p.2.1 p.2.2.1 p.2.2.2.1 p.2.2.2.2.1 b xb.lc.toNat (hMs p.2.2.2.1 p.2.2.2.2.1 e) (tLS p.2.1 p.2.2.1 p.2.2.2.1 p.2.2.2.2.1 b xb (hMs p.2.2.2.1 p.2.2.2.2.1 e) e) i) ∧ ∀ j u x', (tLS p.2.1 p.2.2.1 p.2.2.2.1 p.2.2.2.2.1 b xb (hMs p.2.2.2.1 p.2.2.2.2.1 e) e) j = some u → p.2.2.2.2.1.1[j]? = some x' → tHo p.2.1 p.2.2.1 p.2.2.2.1 xb x' (hgt (hMs p.2.2.2.1 p.2.2.2.2.1 e j)) u = true := by
  have hb := at_lt hx
  have hf := fWs_n _ _ hn b (by omega) (by omega)
  rw [fBn_at hx he] at hf
  unfold fBw at hf
  have hc : hCk p.2.2.2.1 p.2.2.2.2.1 (hMs p.2.2.2.1 p.2.2.2.2.1 e) (e.2.1 - e.1) e.1 = none := by
    cases hq : hCk p.2.2.2.1 p.2.2.2.2.1 (hMs p.2.2.2.1 p.2.2.2.2.1 e) (e.2.1 - e.1) e.1 with
    | none => rfl
    | some i => rw [hq] at hf; cases hf
  rw [hc] at hf
  have hf : tFw p.2.1 p.2.2.1 p.2.2.2.1 p.2.2.2.2.1 xb (hMs p.2.2.2.1 p.2.2.2.2.1 e) (tLS p.2.1 p.2.2.1 p.2.2.2.1 p.2.2.2.2.1 b xb (hMs p.2.2.2.1 p.2.2.2.2.1 e) e) (e.2.1 - e.1) e.1 = none := hf
  have hcx := p_tCx h hx he hc
  obtain ⟨T, hT⟩ : ∃ T, T = nk_wi S 86 7 0 := ⟨_, rfl⟩
  have tn : ∀ a, a ≠ 86 → T.1 a = S.1 a := fun a ha => by rw [hT, wi_n ha]
  have vT : cTv T Q (p.1, p.2.1, p.2.2.1, p.2.2.2.1, p.2.2.2.2.1, p.2.2.2.2.2) e (hMs p.2.2.2.1 p.2.2.2.2.1 e) := by
    refine ⟨by rw [hT]; exact h0, by rw [hT]; exact h1, cPg_c (fun a _ _ _ => tn a (by omega)) hp, fun i q1 q2 => ?_⟩
    rw [tn _ (by omega)]
    exact hh b e hb he i q1 q2
  obtain ⟨B, X, -, -, b3, b4⟩ := c_tyB hQ hcx he vT (by rw [hT, wi_at, if_pos rfl])
  have eX := tLS_eq hcx b3 b4
  rw [eX] at b3 b4
  refine ⟨hcx, b3, b4, fun j u x' hj hx' => ?_⟩
  obtain ⟨o1, o2, -⟩ := b3.1 j u hj
  exact tFw_n _ _ hf j x' u o1 (by omega) hx' hj
/-- all that is known of a right program -/
theorem p_kX {Q : Nat} (hQ : Q = 13 ∨ Q = 49) (h : pWf tx p) (hz : zN p.1 p.2.2.2.2.1) (hI : bI p.2.1 p.2.2.2.1) (hn : fWs p p.2.2.2.1.length 0 = none) {S : nk_S} (hp : cPg S Q p) (h0 : S.2 86 0 = Q) (h1 : S.2 86 1 = Q + 1) (hh : cHt S Q p p.2.2.2.1.length) : kX (fun y => th7 y ∨ ∃ x ∈ p.2.2.2.2.1.2.2.2, nbr x y) (fun i => (lTh p.2.2.2.2.1.2.2.2).getD i 0) (lTh p.2.2.2.2.1.2.2.2).length (lDn (lTh p.2.2.2.2.1.2.2.2)) (lUp (lTh p.2.2.2.2.1.2.2.2)) p.1 p.2.1 p.2.2.1 p.2.2.2.1 p.2.2.2.2.1 p.2.2.2.2.2 (pH p) (pLc p) (pTy p) Q := by
  obtain ⟨hok, hw, hA, hft⟩ := id h
  obtain ⟨k1, k2, k3, k4, k5, k6, k7, k8, k9, k10, k11, k12, k13⟩ := id hok
  obtain ⟨z1, z2, z3⟩ := hz
  obtain ⟨g1, g2⟩ := thr_ok (l := p.2.2.2.2.1.2.2.2) (by have := k11.2.2.2; have := k11.1; omega) z2
  refine ⟨hQ, ⟨g1, fun s hs => ?_, p_ov k1 (by omega) k7 hI k8, k1, by omega, by omega, k11.2.1, fun i x hx => ?_, fun b y hb => ?_, fun i x hx => ?_⟩, rfl, g2, k11⟩
  · by_cases c : s < p.2.2.2.2.1.2.1.length
    · have e : sTp p.2.2.2.2.1 s = p.2.2.2.2.1.2.1[s] := by
        unfold sTp
        rw [if_pos c, List.getD_eq_getElem?_getD, List.getElem?_eq_getElem c, Option.getD_some]
      rw [e]
      obtain ⟨q1, q2⟩ := z1 _ (List.getElem_mem c)
      have := tOk_V (us := p.2.1) q1 k2
      exact ⟨this.1, by omega⟩
    · unfold sVd at hs
      rw [decide_eq_false c, Bool.false_or, Bool.and_eq_true] at hs
      have q1 := of_decide_eq_true hs.1
      have q2 := of_decide_eq_true hs.2
      unfold sTp
      rw [if_neg c]
      unfold tV
      omega
  · obtain ⟨a1, e, a2, a3, a4⟩ := hA.1 i x hx
    obtain ⟨xb, hxb⟩ : ∃ xb, p.2.2.2.1[x.2.2.2.1]? = some xb := ⟨_, List.getElem?_eq_getElem a1⟩
    obtain ⟨t1, t2, t3, t4⟩ := p_types hQ h hn hp h0 h1 hh hxb a2
    refine ⟨xb, e, hMs p.2.2.2.1 p.2.2.2.2.1 e, tLS p.2.1 p.2.2.1 p.2.2.2.1 p.2.2.2.2.1 x.2.2.2.1 xb (hMs p.2.2.2.1 p.2.2.2.2.1 e) e, hxb, a2, a3, a4, t1, fun j h1 h2 => ?_, t2, t3, t4⟩
    have hwb := hw _ xb e hxb a2
    have hjl : j < p.2.2.2.2.1.1.length := by have := hwb.2.2.1; omega
    have hy := List.getElem?_eq_getElem hjl
    have hyb := (hwb.2.2.2.1 j _ h1 h2 hy).1
    exact ⟨pH_at hy hyb a2, pLc_at hy hyb hxb, pTy_at hy hyb hxb a2⟩
  · obtain ⟨xb, e, q1, q2⟩ := p_el h (at_lt hb)
    have hwb := hw b xb e q1 q2
    have hjl : e.1 < p.2.2.2.2.1.1.length := by have := hwb.2.2.1; have := hwb.2.1; omega
    have hy := List.getElem?_eq_getElem hjl
    exact ⟨e, _, q2, hy, (hwb.2.2.2.1 e.1 _ (Nat.le_refl _) hwb.2.1 hy).1⟩
  · obtain ⟨a1, e, a2, a3, a4⟩ := hA.1 i x hx
    obtain ⟨xb, hxb⟩ : ∃ xb, p.2.2.2.1[x.2.2.2.1]? = some xb := ⟨_, List.getElem?_eq_getElem a1⟩
    have hcw := ((hw _ xb e hxb a2).2.2.2.1 i x a3 a4 hx).2
    have hzx := z3 x (List.mem_of_getElem? hx)
    refine ⟨fun q => Or.inr ⟨_, hzx.1 q, Or.inl rfl⟩, hzx.2, fun q => ?_, fun q => ?_⟩
    · obtain ⟨f, c, y, q1, q2, q3, -⟩ := hcw.2.2.2.2.2.2.1 (Or.inr q)
      unfold tkX
      rw [if_pos (Or.inr q), q1, Int.toNat_natCast, q2]
      exact (bTx_12 k8 q2).2 (by rw [q3]; exact decide_eq_true q)
    · obtain ⟨f, c, y, q1, q2, q3, q4, q5, q6⟩ := hcw.2.2.2.2.2.2.1 q
      have := anc_le k1 (by omega) p.2.1.length c y.ow (by omega) (by omega) q6
      have := k9 y (List.mem_of_getElem? q2)
      omega
theorem mnL_at {ns : List (List Int)} : ∀ (l : List jB) (b : Nat), 0 ≤ mnL ns l b → ∃ k y, mnL ns l b = ((b + k : Nat) : Int) ∧ l[k]? = some y ∧ y.ps = [] ∧ y.rs = -1 := by
  intro l
  induction l with
  | nil => intro b h; exact absurd h (by show ¬ (0 : Int) ≤ -1; decide)
  | cons a l ih =>
    intro b h
    rw [mnL] at h ⊢
    split at h
    · rename_i c
      rw [if_pos c]
      split at h
      · rename_i c2
        rw [if_pos c2]
        exact ⟨0, a, rfl, rfl, List.eq_nil_of_length_eq_zero c2.2.1, c2.2.2⟩
      · exact absurd h (by decide)
    · rename_i c
      rw [if_neg c]
      obtain ⟨k, y, q1, q2, q3⟩ := ih (b + 1) h
      exact ⟨k + 1, y, by rw [q1]; congr 1; omega, q2, q3⟩
/-- the class proves a right program: it ends in the least solution -/
theorem p_prove {Q : Nat} (hQ : Q = 13 ∨ Q = 49) (h : pWf tx p) (hz : zN p.1 p.2.2.2.2.1) (hI : bI p.2.1 p.2.2.2.1) (hn : fWs p p.2.2.2.1.length 0 = none) {S : nk_S} (hp : cPg S Q p) (h0 : S.2 86 0 = Q) (h1 : S.2 86 1 = Q + 1) (hh : cHt S Q p p.2.2.2.1.length) (h6 : S.1 100 6 = 0 ∧ S.1 100 7 = 0 ∧ S.1 100 8 = 0) : ∃ (mb : Nat) (em : Nat × Nat × Nat × Nat) (S' : nk_S), mnL p.1 p.2.2.2.1 0 = (mb : Int) ∧ p.2.2.2.2.2[mb]? = some em ∧ ja_X4_prove 92 Q S = some (0, S') ∧ S'.2 = (nk_wr (nk_wr S 92 0 Q) 92 1 (Q + 23)).2 ∧ (∀ a, a < 92 ∨ 112 ≤ a → a ≠ Q + 4 → a ≠ Q + 8 → S'.1 a = S.1 a) ∧ prE (fun y => th7 y ∨ ∃ x ∈ p.2.2.2.2.1.2.2.2, nbr x y) (lDn (lTh p.2.2.2.2.1.2.2.2)) (lUp (lTh p.2.2.2.2.1.2.2.2)) p.1 p.2.1 p.2.2.1 p.2.2.2.1 p.2.2.2.2.1 p.2.2.2.2.2 (pH p) (pLc p) (pTy p) em.1 Q S' := by
  have hk := p_kX hQ h hz hI hn hp h0 h1 hh
  obtain ⟨hok, hw, hA, hft⟩ := id h
  obtain ⟨k1, k2, k3, k4, k5, k6, k7, k8, k9, k10, k11, k12, k13⟩ := id hok
  obtain ⟨mb, ym, m1, m2, m3, m4⟩ := mnL_at p.2.2.2.1 0 k13
  rw [Nat.zero_add] at m1
  obtain ⟨xb, em, m5, m6⟩ := p_el h (at_lt m2)
  have hv : cPh S Q (p.1, p.2.1, p.2.2.1, p.2.2.2.1, p.2.2.2.2.1, p.2.2.2.2.2) := by
    obtain ⟨c1, c2, c3, c4, c5, c6, c7, c8, c9, -⟩ := hp
    exact ⟨c1, c2, c3, c4, c5, c6, c7, c8, c9, trivial⟩
  obtain ⟨S', s1, s2, s3, s4⟩ := c_prove (ym := ym) (mb := mb) (em := em) hk (fun f y hy => ⟨k10 y (List.mem_of_getElem? hy), by have := k6.2 f y hy; omega⟩) (fun k y hy => by
    have hb := hA.2 k y hy
    obtain ⟨xb, e, q1, q2⟩ := p_el h hb
    have := ((hw _ xb e q1 q2).2.2.2.2.2.2.2 k y hy rfl).2.2.2.2.2.2.1
    omega) k6.1 k7.1 (fun y hy => by
    have := (tOk_V (us := p.2.1) (hft y hy) k2).2
    omega) (fun y hy => by
    have := rs_rg k8 y hy
    omega) hv (fun i x hx => by
    obtain ⟨a1, e, a2, a3, a4⟩ := hA.1 i x hx
    obtain ⟨xb, hxb⟩ : ∃ xb, p.2.2.2.1[x.2.2.2.1]? = some xb := ⟨_, List.getElem?_eq_getElem a1⟩
    rw [pH_at hx rfl a2, pLc_at hx rfl hxb, (hv.2.2.2.2.2.1 _ xb hxb).2.2.2.2.2]
    have hb := k8 xb (List.mem_of_getElem? hxb)
    refine ⟨hh _ e a1 a2 i a3 a4, ?_⟩
    have := hb.2.2.2.2.1
    omega) (fun i => ⟨pLc_12 h i, pH_8 i⟩) h6 (by rw [hv.2.2.2.2.1]; exact m1) m2 m3 m6
  exact ⟨mb, em, S', m1, m6, s1, s2, s3, s4⟩
end PKN
