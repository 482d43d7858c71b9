/-! The run: the reference raises errors; the shape of a step. -/
/-- what the reference's step does is what the machine's step does -/
def rsO (p : jP) (A : jA) (σ : jG) (inp : Nat → Int) (m : jM) (i : Nat) (x : jC) (S : nk_S) : Prop := ∃ S', ja_X13_step 121 (i : Int) S = some (0, S') ∧ rxG S S' ∧ S'.1 121 63 = (if mSx p A σ inp m i x = true then 1 else S.1 121 63) ∧ spR p S S' i (mSp p inp m i x)
section RRS
variable {p : jP} {m m' m1 : jM} {P Q : Nat} {tx : List (List Int)} {x : jC} {t : Nat → Int} {inp : Nat → Int} {S S' S1 : nk_S} {A : jA} {σ : jG} {i : Nat} {v : jV}
theorem fnd_r (h : ldR S P p A σ) (hx : p.2.2.2.2.1.1[i]? = some x) : cI (S.1 (P + 37) i) (fnd p A σ i x) := by
  obtain ⟨h1, h2⟩ := h.2.2.2.2 i x hx
  cases hA : A i with
  | none =>
    rw [(h1 hA).1]
    refine cI_e cI_0 (fun j => ?_)
    unfold fnd
    rw [hA]; rfl
  | some u =>
    refine cI_e (h2 u hA).1 (fun j => ?_)
    unfold fnd
    rw [hA]
theorem mMk_e {s z : Nat} (h : mMk p m s z = some m1) : m1 = (m.d, m.pc, m.hs, m.vs, (m.n + 1, gU m.si m.n s, gU m.ba (m.n + 1) (m.ba m.n + z), fun j => if m.ba m.n ≤ j ∧ j < m.ba m.n + z then mIn p s (j - m.ba m.n) else m.me j), m.2.2.2.2.2) ∧ ¬ (2000 ≤ m.n ∨ 12000 < m.ba m.n + z) := by
  unfold mMk at h
  by_cases c : 2000 ≤ m.n ∨ 12000 < m.ba m.n + z
  · rw [if_pos c] at h; cases h
  · rw [if_neg c] at h
    exact ⟨(Option.some.inj h).symm, c⟩
/-- an error is raised -/
theorem r_raise (hwf : pWf tx p) (hk : pKX p Q) (hm : mOk p m) (h : rXx S P p A σ) (hM : rMn p S m) (hx : p.2.2.2.2.1.1[i]? = some x) (hi : i < 1024) {e : Nat} (he : e < 6) : ∃ S', ja_X13_raise 121 (e : Int) (i : Int) S = some (0, S') ∧ S'.1 121 63 = (if (!fnd p A σ i x e) = true then 1 else S.1 121 63) ∧ rxG S S' ∧ spR p S S' i (match mMk p m (48 + e) 0 with
    | none => .inr (3, -1, m)
    | some m' => mTw p m' (m.n + 1)) := by
  have hb := ri_bit (fnd_r h.2.2 hx) (k := e) (by omega)
  obtain ⟨T, hT⟩ : ∃ T, T = if fnd p A σ i x e = true then S else nk_wi S 121 63 1 := ⟨_, rfl⟩
  have hMT : rMn p T m := by
    rw [hT]
    split
    · exact hM
    · exact rMn_w (by decide) hM
  have hGT : rxG S T := by
    rw [hT]
    split
    · exact ⟨rfl, fun _ _ => rfl, fun _ _ => rfl⟩
    · exact rxG_w (by decide)
  have tf : ∀ f, f ≠ 63 → T.1 121 f = S.1 121 f := fun f hf => by
    rw [hT]
    split
    · rfl
    · rw [wi_at, if_neg hf]
  have t63 : T.1 121 63 = (if (!fnd p A σ i x e) = true then 1 else S.1 121 63) := by
    rw [hT]
    cases fnd p A σ i x e with
    | true => rfl
    | false => rw [if_neg (by decide), wi_at, if_pos rfl]; rfl
  have hXT := rXx_g hGT h
  have ew : nk_w (48 + (e : Int)) = ((48 + e : Nat) : Int) := by rw [nk_w_id (by omega) (by omega)]; omega
  have ew2 : nk_w (10 + (e : Int)) = rvU (sTp p.2.2.2.2.1 (48 + e)) := by
    have hl := (p_ctx hwf hk).2.2.2.2.2.2.2
    unfold sTp
    rw [if_neg (by omega)]
    unfold rvU
    rw [if_neg (by omega), if_neg (by omega), if_neg (by omega), if_neg (by omega), if_pos (by omega), nk_w_id (by omega) (by omega)]
    omega
  have hr : ja_X13_raise 121 (e : Int) (i : Int) S = ja_X13_raise_b21 121 (e : Int) (i : Int) T := by
    unfold ja_X13_raise
    rw [if_pos (in_i (N := 1024) (by omega)), h.2.1, (jc_Pc h.1).2.2.2.2.2.1, Int.toNat_natCast, hb, hT]
    cases fnd p A σ i x e with
    | true => rw [if_neg (show ¬ bi true = 0 by decide), if_pos rfl]
    | false => rw [if_pos (show bi false = 0 from rfl), lt_eq, if_neg (by decide)]
  obtain ⟨g1, g2⟩ := r_obj (i := (i : Int)) (s := 48 + e) (sz := 0) hm.2.1 hMT.2.1 ew2
  have em : ((min 0 12001 : Nat) : Int) = 0 := rfl
  rw [em] at g1 g2
  rw [hr]
  unfold ja_X13_raise_b21
  rw [ew]
  cases hmk : mMk p m (48 + e) 0 with
  | none =>
    rw [g1 hmk, bd_some, if_pos rfl]
    refine ⟨nk_wi (nk_wi T 121 61 3) 121 59 (i : Int), rfl, by rw [wi_at, if_neg (by decide), wi_at, if_neg (by decide), t63], rxG_trans hGT (rxG_trans (rxG_w (by decide)) (rxG_w (by decide))), ?_, ?_, ?_, ?_⟩
    · rw [wi_at, if_neg (by decide), wi_at, if_pos rfl]; rfl
    · rw [wi_at, if_pos rfl]
    · rw [wi_at, if_neg (by decide), wi_at, if_neg (by decide), tf 60 (by decide)]; rfl
    · exact rIo_c (S := T) (fun g hg => by rw [wi_at, if_neg (by omega), wi_at, if_neg (by omega)]) (by rw [wi_n (by decide), wi_n (by decide)]) hMT.2.2
  | some m1 =>
    obtain ⟨d1, d2⟩ := k_err hwf hk hm he hmk
    obtain ⟨U, u1, u2, u3, u4, u5, -⟩ := g2 m1 hmk
    obtain ⟨e1, e2⟩ := mMk_e hmk
    have hMU : rMn p U m1 := by
      refine ⟨?_, ⟨u5.1, u5.2.1, u5.2.2, fun j hj => ?_⟩, ?_⟩
      · rw [e1]; exact rFn_c (S := T) (m := m) (u4 52 (by omega)) (fun a ha => u3 a (by omega)) hMT.1
      · rw [e1] at hj ⊢
        have hj : j < gU m.ba (m.n + 1) (m.ba m.n + 0) (m.n + 1) := hj
        rw [gU_at] at hj
        show U.1 247 j = rV (if m.ba m.n ≤ j ∧ j < m.ba m.n + 0 then mIn p (48 + e) (j - m.ba m.n) else m.me j)
        rw [if_neg (by omega), u3 247 (by omega)]
        exact hMT.2.1.2.2.2 j (show j < m.ba m.n by omega)
      · rw [e1]
        exact rIo_c (S := T) (fun g hg => by
          by_cases c : g = 55
          · rw [c]; exact u2.2.2 55 (by omega)
          · exact u4 g (by omega)) (u3 249 (by omega)) hMT.2.2
    have hGU : rxG S U := rxG_trans hGT (rxG_f u2)
    obtain ⟨V, v1, v2, v3, v4⟩ := r_toss hwf hk d1 (r := m.n + 1) (by omega) (by omega) (rXx_g hGU h) hMU i
    have hne : ¬ rV (2, ((m.n + 1 : Nat) : Int)) = 0 := by rw [rV_r rfl]; show ¬ (1099511627776 : Int) + ((m.n + 1 : Nat) : Int) = 0; omega
    refine ⟨V, by rw [u1, bd_some, if_neg hne, v1, bd_some], by rw [v2, u2.2.2 63 (by omega), t63], rxG_trans hGU v3, spR_s (by rw [u2.2.2 59 (by omega), tf 59 (by decide)]) (by rw [u2.2.2 60 (by omega), tf 60 (by decide)]) (by rw [u2.2.2 61 (by omega), tf 61 (by decide)]) v4⟩
/-- it goes on -/
theorem rp_go (h : mEf p inp m i x = jE.go m') (q : ∃ S', ja_X13_step 121 (i : Int) S = some (0, S') ∧ rxF S S' ∧ rMm p S' m') : rsO p A σ inp m i x S := by
  obtain ⟨S', a1, a2, a3⟩ := q
  unfold rsO mSx mSp
  rw [h]
  refine ⟨S', a1, rxG_f a2, ?_, a3, a2.2.2 61 (by omega), a2.2.2 59 (by omega), a2.2.2 60 (by omega)⟩
  show _ = if false = true then 1 else _
  rw [if_neg (by decide)]
  exact a2.2.2 63 (by omega)
/-- it raises -/
theorem rp_rz (hwf : pWf tx p) (hk : pKX p Q) (hm : mOk p m) (hX : rXx S P p A σ) (hx : p.2.2.2.2.1.1[i]? = some x) (hi : i < 1024) {e : Nat} (h : mEf p inp m i x = jE.rz e) (hF : rxF S S1) (hM : rMn p S1 m) (q : ja_X13_step 121 (i : Int) S = ja_X13_raise 121 (e : Int) (i : Int) S1) : rsO p A σ inp m i x S := by
  obtain ⟨S', a1, a2, a3, a4⟩ := r_raise hwf hk hm (rXx_f hF hX) hM hx hi (ef_rz h)
  unfold rsO mSx mSp
  rw [h]
  exact ⟨S', q.trans a1, rxG_trans (rxG_f hF) a3, by rw [a2, hF.2.2 63 (by omega)]; rfl, spR_s (hF.2.2 59 (by omega)) (hF.2.2 60 (by omega)) (hF.2.2 61 (by omega)) a4⟩
/-- it ends -/
theorem rp_st {how : Nat} (h : mEf p inp m i x = jE.st how) (hF : rxF S S1) (hI : rIo S1 m.2.2.2.2.2) (q : ja_X13_step 121 (i : Int) S = some (0, nk_wi (nk_wi S1 121 61 (how : Int)) 121 59 (i : Int))) : rsO p A σ inp m i x S := by
  have hst := ef_st h
  unfold rsO mSx mSp
  rw [h]
  refine ⟨_, q, rxG_trans (rxG_f hF) (rxG_trans (rxG_w (by decide)) (rxG_w (by decide))), ?_, ?_, ?_, ?_, ?_⟩
  · show _ = if false = true then 1 else _
    rw [if_neg (show ¬ false = true by decide), wi_at, if_neg (by decide), wi_at, if_neg (by decide)]
    exact hF.2.2 63 (by omega)
  · rw [wi_at, if_neg (by decide), wi_at, if_pos rfl]
  · rw [wi_at, if_pos rfl]
  · rw [wi_at, if_neg (by decide), wi_at, if_neg (by decide), hF.2.2 60 (by omega)]
    show _ = if how = 1 then _ else _
    rw [if_neg hst]
  · exact rIo_c (S := S1) (fun g hg => by rw [wi_at, if_neg (by omega), wi_at, if_neg (by omega)]) (by rw [wi_n (by decide), wi_n (by decide)]) hI
end RRS
