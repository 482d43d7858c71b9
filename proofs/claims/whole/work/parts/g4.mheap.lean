/-! The run: places of fields; new objects. -/
section MHP
variable {us : List Int} {fl : List (List Int × Nat × Int)}
theorem nOf_anc (hu : uOk us) (h32 : us.length ≤ 32) : ∀ c, c < us.length → ∀ o, anc us c o = true → nOf us fl o ≤ nOf us fl c ∧ (o ≠ c → nOf us fl o ≤ nUp us fl c) := by
  intro c
  induction c using Nat.strongRecOn with
  | ind c ih =>
    intro hc o ho
    have e := nOf_eq (fl := fl) hu h32 hc
    by_cases q : c = 0
    · subst q
      rw [anc_0 hu] at ho
      have ho := of_decide_eq_true ho
      rw [← ho]
      exact ⟨Nat.le_refl _, fun r => absurd rfl r⟩
    · obtain ⟨u, u1, u2⟩ := hu.2 c (by omega) hc
      rw [anc_s hu (by omega) hc h32 u1, Bool.or_eq_true] at ho
      have eu : nUp us fl c = nOf us fl u := by unfold nUp; rw [u1, if_neg (by omega), Int.toNat_natCast]
      rcases ho with r | r
      · have r := of_decide_eq_true r
        rw [← r]
        exact ⟨Nat.le_refl _, fun r => absurd rfl r⟩
      · have := (ih u u2 (by omega) o r).1
        exact ⟨by omega, fun _ => by omega⟩
theorem cnt_tk {f c : Nat} : cntF (fl.take f) c ≤ cntF fl c := by
  conv => rhs; rw [← List.take_append_drop f fl]
  unfold cntF
  rw [List.filter_append, List.length_append]
  omega
theorem cnt_mono {f g c : Nat} (h : f ≤ g) : cntF (fl.take f) c ≤ cntF (fl.take g) c := by
  have : fl.take f = (fl.take g).take f := by rw [List.take_take, Nat.min_eq_left h]
  rw [this]
  exact cnt_tk
variable {p : jP} {Q : Nat} {m m1 : jM}
theorem fPl_at {f : Nat} {y : List Int × Nat × Int} (hy : p.2.2.1[f]? = some y) : fPl p f = nUp p.2.1 p.2.2.1 y.2.1 + cntF (p.2.2.1.take f) y.2.1 := by unfold fPl; rw [hy]
theorem fPl_in (hu : uOk p.2.1) (h32 : p.2.1.length ≤ 32) (hO : fOk p.2.1 p.2.2.1) {f : Nat} {y : List Int × Nat × Int} (hy : p.2.2.1[f]? = some y) : nUp p.2.1 p.2.2.1 y.2.1 ≤ fPl p f ∧ fPl p f < nOf p.2.1 p.2.2.1 y.2.1 := by
  have e := nOf_eq (fl := p.2.2.1) hu h32 (hO.2 f y hy)
  rw [fPl_at hy]
  have h1 := cnt_one (c := y.2.1) hy
  rw [if_pos rfl] at h1
  have h2 := cnt_tk (fl := p.2.2.1) (f := f + 1) (c := y.2.1)
  omega
/-- a field stands in the object -/
theorem fPl_lt (hu : uOk p.2.1) (h32 : p.2.1.length ≤ 32) (hO : fOk p.2.1 p.2.2.1) {f : Nat} {y : List Int × Nat × Int} (hy : p.2.2.1[f]? = some y) {c : Nat} (hc : c < p.2.1.length) (ha : anc p.2.1 c y.2.1 = true) : fPl p f < nOf p.2.1 p.2.2.1 c := by
  have h1 := (fPl_in hu h32 hO hy).2
  have h2 := (nOf_anc (fl := p.2.2.1) hu h32 c hc y.2.1 ha).1
  omega
/-- two fields stand apart -/
theorem fPl_inj (hu : uOk p.2.1) (h32 : p.2.1.length ≤ 32) (hO : fOk p.2.1 p.2.2.1) {f g : Nat} {y y' : List Int × Nat × Int} (hy : p.2.2.1[f]? = some y) (hy' : p.2.2.1[g]? = some y') {c : Nat} (hc : c < p.2.1.length) (ha : anc p.2.1 c y.2.1 = true) (ha' : anc p.2.1 c y'.2.1 = true) (he : fPl p f = fPl p g) : f = g := by
  have key : ∀ (f g : Nat) (y y' : List Int × Nat × Int), p.2.2.1[f]? = some y → p.2.2.1[g]? = some y' → anc p.2.1 c y.2.1 = true → anc p.2.1 c y'.2.1 = true → y'.2.1 < y.2.1 → fPl p g < fPl p f := by
    intro f g y y' hy hy' ha ha' hlt
    have h1 := (fPl_in hu h32 hO hy).1
    have h2 := (fPl_in hu h32 hO hy').2
    have h3 := anc_row hu h32 p.2.1.length c y'.2.1 y.2.1 hc hc ha' ha (by omega)
    have h4 := (nOf_anc (fl := p.2.2.1) hu h32 y.2.1 (hO.2 f y hy) y'.2.1 h3).2 (by omega)
    omega
  have same : ∀ (f g : Nat) (y y' : List Int × Nat × Int), p.2.2.1[f]? = some y → p.2.2.1[g]? = some y' → y'.2.1 = y.2.1 → f < g → fPl p f < fPl p g := by
    intro f g y y' hy hy' he hlt
    rw [fPl_at hy, fPl_at hy', he]
    have h1 := cnt_one (c := y.2.1) hy
    rw [if_pos rfl] at h1
    have h2 := cnt_mono (fl := p.2.2.1) (f := f + 1) (g := g) (c := y.2.1) (by omega)
    omega
  rcases Nat.lt_trichotomy y'.2.1 y.2.1 with q | q | q
  · have := key f g y y' hy hy' ha ha' q; omega
  · rcases Nat.lt_trichotomy f g with r | r | r
    · have := same f g y y' hy hy' q r; omega
    · exact r
    · have := same g f y' y hy' hy q.symm r; omega
  · have := key g f y' y hy' hy ha' ha q; omega
theorem cl_ok (h8 : 8 ≤ p.2.1.length) (hso : sOk p.2.1 p.2.2.2.2.1) {s : Nat} (hs : sVd p.2.2.2.2.1 s = true) : cl (sTp p.2.2.2.2.1 s) < p.2.1.length := by
  obtain ⟨h1, h2⟩ := hso s hs
  unfold tV at h1
  unfold cl
  omega
/-- what a new object holds is right -/
theorem mIn_ty (hu : uOk p.2.1) (h32 : p.2.1.length ≤ 32) (hO : fOk p.2.1 p.2.2.1) (hft : ∀ y ∈ p.2.2.1, y.2.2 = 1 ∨ 2 ≤ y.2.2) {s : Nat} (hc : cl (sTp p.2.2.2.2.1 s) < p.2.1.length) : (tAr (sTp p.2.2.2.2.1 s) = true → ∀ q, vTy p m (tEl (sTp p.2.2.2.2.1 s)) (mIn p s q)) ∧ (tAr (sTp p.2.2.2.2.1 s) = false → ∀ (f : Nat) (y : List Int × Nat × Int), p.2.2.1[f]? = some y → anc p.2.1 (cl (sTp p.2.2.2.2.1 s)) y.2.1 = true → vTy p m y.2.2 (mIn p s (fPl p f))) := by
  refine ⟨fun ha q => ?_, fun ha f y hy hanc => ?_⟩
  · unfold mIn
    rw [if_pos ha]
    by_cases c : sTp p.2.2.2.2.1 s = 3
    · rw [if_pos c, c]
      exact vTy_int (by unfold iR; omega)
    · rw [if_neg c]
      rcases tEl_nz ha with r | r
      · unfold tEl at r
        rw [if_neg c] at r
        unfold tAr at ha
        simp [c] at ha
        omega
      · exact vTy_null (by omega)
  · unfold mIn
    rw [if_neg (by rw [ha]; decide)]
    rcases hft y (List.mem_of_getElem? hy) with c | c
    · have hn : fNm p (cl (sTp p.2.2.2.2.1 s)) (fPl p f) = true := by
        unfold fNm
        refine (exB_iff 48).mpr ⟨f, by have := at_lt hy; have := hO.1; omega, ?_⟩
        rw [hy]
        dsimp only
        rw [hanc, decide_eq_true c, decide_eq_true rfl]; rfl
      rw [if_pos hn, c]
      exact vTy_int (by unfold iR; omega)
    · have hn : ¬ fNm p (cl (sTp p.2.2.2.2.1 s)) (fPl p f) = true := fun q => by
        unfold fNm at q
        obtain ⟨g, g1, g2⟩ := (exB_iff 48).mp q
        cases hg : p.2.2.1[g]? with
        | none => rw [hg] at g2; cases g2
        | some y' =>
          rw [hg] at g2
          dsimp only at g2
          rw [Bool.and_eq_true, Bool.and_eq_true] at g2
          obtain ⟨⟨a1, a2⟩, a3⟩ := g2
          have := fPl_inj hu h32 hO hg hy hc a1 hanc (of_decide_eq_true a3)
          rw [this, hy] at hg
          cases hg
          have := of_decide_eq_true a2
          omega
      rw [if_neg hn]
      exact vTy_null c
/-- a new object -/
theorem mMk_ok (hu : uOk p.2.1) (h32 : p.2.1.length ≤ 32) (hO : fOk p.2.1 p.2.2.1) (hft : ∀ y ∈ p.2.2.1, y.2.2 = 1 ∨ 2 ≤ y.2.2) (h8 : 8 ≤ p.2.1.length) (hso : sOk p.2.1 p.2.2.2.2.1) (hT : hTy p m) {s sz : Nat} (hs : sVd p.2.2.2.2.1 s = true) (hz : tAr (sTp p.2.2.2.2.1 s) = false → sz = nOf p.2.1 p.2.2.1 (cl (sTp p.2.2.2.2.1 s))) (h : mMk p m s sz = some m1) : hTy p m1 ∧ m1.n = m.n + 1 ∧ (∀ o, o < m.n → m1.si o = m.si o) ∧ m1.si m.n = s ∧ m1.d = m.d ∧ m1.pc = m.pc ∧ m1.hs = m.hs ∧ m1.vs = m.vs ∧ m1.2.2.2.2.2 = m.2.2.2.2.2 ∧ (m.n < 2000 ∧ m.ba m.n + sz ≤ 12000) ∧ (∀ o, o ≤ m.n → m1.ba o = m.ba o) ∧ m1.ba (m.n + 1) = m.ba m.n + sz ∧ ∀ j, m1.me j = if m.ba m.n ≤ j ∧ j < m.ba m.n + sz then mIn p s (j - m.ba m.n) else m.me j := by
  have hc := cl_ok h8 hso hs
  unfold mMk at h
  split at h
  · cases h
  · rename_i hr
    cases h
    obtain ⟨t1, t2, t3, t4, t5, t6, t7⟩ := hT
    obtain ⟨M, hM⟩ : ∃ M : jM, M = (m.d, m.pc, m.hs, m.vs, (m.n + 1, gU m.si m.n s, gU m.ba (m.n + 1) (m.ba m.n + sz), fun j => if m.ba m.n ≤ j ∧ j < m.ba m.n + sz then mIn p s (j - m.ba m.n) else m.me j), m.2.2.2.2.2) := ⟨_, rfl⟩
    have b0 : ∀ o, o ≤ m.n → M.ba o = m.ba o := fun o ho => by rw [hM]; exact gU_ne (by omega)
    have b1 : M.ba (m.n + 1) = m.ba m.n + sz := by rw [hM]; exact gU_at
    have s0 : ∀ o, o < m.n → M.si o = m.si o := fun o ho => by rw [hM]; exact gU_ne (by omega)
    have s1 : M.si m.n = s := by rw [hM]; exact gU_at
    have n1 : M.n = m.n + 1 := by rw [hM]
    have me0 : ∀ j, M.me j = if m.ba m.n ≤ j ∧ j < m.ba m.n + sz then mIn p s (j - m.ba m.n) else m.me j := fun j => by rw [hM]
    have hmono : ∀ o, o ≤ m.n → ∀ o', o ≤ o' → o' ≤ m.n → m.ba o ≤ m.ba o' := by
      intro o ho o' h1
      induction o' with
      | zero => intro _; have : o = 0 := by omega
                rw [this]; exact Nat.le_refl _
      | succ o' ih =>
        intro h2
        by_cases e : o = o' + 1
        · rw [e]; exact Nat.le_refl _
        · have := ih (by omega) (by omega)
          have := t4 o' (by omega)
          omega
    have ex0 : ∀ o, o < m.n → M.ext o = m.ext o := fun o ho => by unfold jM.ext; rw [b0 o (by omega), b0 (o + 1) (by omega)]
    have mem0 : ∀ o q, o < m.n → m.ba o + q < m.ba (o + 1) → M.me (M.ba o + q) = m.me (m.ba o + q) := fun o q ho hq => by
      rw [b0 o (by omega), me0, if_neg]
      have := hmono (o + 1) (by omega) m.n (by omega) (by omega)
      omega
    have vx : ∀ {t : Int} {v : jV}, vTy p m t v → vTy p M t v := fun hv => vTy_ext (by rw [n1]; omega) s0 hv
    obtain ⟨i1, i2⟩ := mIn_ty (m := M) hu h32 hO hft hc
    rw [← hM]
    refine ⟨⟨by rw [b0 0 (by omega)]; exact t1, by rw [n1]; omega, by rw [n1, b1]; omega, fun o ho => ?_, fun o ho => ?_, fun o ho ha q hq => ?_, fun o ho ha => ?_⟩, n1, s0, s1, by rw [hM], by rw [hM], by rw [hM], by rw [hM], by rw [hM], by omega, b0, b1, me0⟩
    · rw [n1] at ho
      by_cases e : o = m.n
      · rw [e, b0 m.n (by omega), b1]; omega
      · rw [b0 o (by omega), b0 (o + 1) (by omega)]; exact t4 o (by omega)
    · rw [n1] at ho
      by_cases e : o = m.n
      · rw [e, s1]; exact hs
      · rw [s0 o (by omega)]; exact t5 o (by omega)
    · rw [n1] at ho
      by_cases e : o = m.n
      · subst e
        rw [s1] at ha ⊢
        unfold jM.ext at hq
        rw [b1, b0 m.n (by omega)] at hq
        rw [b0 m.n (by omega), me0, if_pos (by omega)]
        exact i1 ha _
      · rw [s0 o (by omega)] at ha ⊢
        rw [ex0 o (by omega)] at hq
        rw [mem0 o q (by omega) (by unfold jM.ext at hq; omega)]
        exact vx (t6 o (by omega) ha q hq)
    · rw [n1] at ho
      by_cases e : o = m.n
      · subst e
        rw [s1] at ha ⊢
        have hz' := hz ha
        refine ⟨?_, fun f y hy hanc => ?_⟩
        · unfold jM.ext
          rw [b1, b0 m.n (by omega), ← hz']; omega
        · have hlt := fPl_lt hu h32 hO hy hc hanc
          rw [b0 m.n (by omega), me0, if_pos (by omega), show m.ba m.n + fPl p f - m.ba m.n = fPl p f by omega]
          exact i2 ha f y hy hanc
      · rw [s0 o (by omega)] at ha ⊢
        obtain ⟨r1, r2⟩ := t7 o (by omega) ha
        refine ⟨by rw [ex0 o (by omega)]; exact r1, fun f y hy hanc => ?_⟩
        have hcl := cl_ok h8 hso (t5 o (by omega))
        have hlt := fPl_lt hu h32 hO hy hcl hanc
        rw [mem0 o (fPl p f) (by omega) (by unfold jM.ext at r1; omega)]
        exact vx (r2 f y hy hanc)
end MHP
