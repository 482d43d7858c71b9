/-! Heights and types of all bodies: one function; both sides. -/
/-- the least solution -/
noncomputable def tLS (us : List Int) (fl : List (List Int × Nat × Int)) (bl : List jB) (z : jL) (b : Nat) (xb : jB) (M : Nat → Nat) (e : Nat × Nat × Nat × Nat) : jX := Classical.epsilon fun X => tInv us fl bl z b xb M e X ∧ ∀ i, tCl us fl bl z b xb.lc.toNat M X i
theorem tLS_eq {ns : List (List Int)} {us : List Int} {fl : List (List Int × Nat × Int)} {bl : List jB} {z : jL} {b : Nat} {xb : jB} {e : Nat × Nat × Nat × Nat} {M : Nat → Nat} (h : tCx ns us fl bl z b xb e M) {X : jX} (hX : tInv us fl bl z b xb M e X) (cX : ∀ i, tCl us fl bl z b xb.lc.toNat M X i) : X = tLS us fl bl z b xb M e := by
  have hs : tInv us fl bl z b xb M e (tLS us fl bl z b xb M e) ∧ ∀ i, tCl us fl bl z b xb.lc.toNat M (tLS us fl bl z b xb M e) i := Classical.epsilon_spec (p := fun X => tInv us fl bl z b xb M e X ∧ ∀ i, tCl us fl bl z b xb.lc.toNat M X i) ⟨X, hX, cX⟩
  exact tSol_u h hX hs.1 cX hs.2
def orO : Option Nat → Option Nat → Option Nat
  | some i, _ => some i
  | none, o => o
/-- the first wrong instruction of a body -/
noncomputable def fBw (p : jP) (b : Nat) (xb : jB) (e : Nat × Nat × Nat × Nat) : Option Nat := orO (hCk p.2.2.2.1 p.2.2.2.2.1 (hMs p.2.2.2.1 p.2.2.2.2.1 e) (e.2.1 - e.1) e.1) (tFw p.2.1 p.2.2.1 p.2.2.2.1 p.2.2.2.2.1 xb (hMs p.2.2.2.1 p.2.2.2.2.1 e) (tLS p.2.1 p.2.2.1 p.2.2.2.1 p.2.2.2.2.1 b xb (hMs p.2.2.2.1 p.2.2.2.2.1 e) e) (e.2.1 - e.1) e.1)
noncomputable def fBn (p : jP) (b : Nat) : Option Nat := match p.2.2.2.1[b]?, p.2.2.2.2.2[b]? with
  | some xb, some e => fBw p b xb e
  | _, _ => none
/-- the first wrong instruction -/
noncomputable def fWs (p : jP) : Nat → Nat → Option Nat
  | 0, _ => none
  | d + 1, b => orO (fBn p b) (fWs p d (b + 1))
theorem fBn_at {p : jP} {b : Nat} {xb : jB} {e : Nat × Nat × Nat × Nat} (hx : p.2.2.2.1[b]? = some xb) (he : p.2.2.2.2.2[b]? = some e) : fBn p b = fBw p b xb e := by
  unfold fBn
  rw [hx, he]
theorem ccA_n : ccA none < 0 := by decide
theorem ccA_s (i : Nat) : ¬ ccA (some i) < 0 := by
  show ¬ (i : Int) < 0
  omega
def cFw (Q : Nat) (S S' : nk_S) : Prop := S'.2 = S.2 ∧ (∀ a, ¬ (86 ≤ a ∧ a ≤ 91) → a ≠ Q + 30 → S'.1 a = S.1 a) ∧ ∀ i, i ≠ 7 → S'.1 86 i = S.1 86 i
theorem cFw_rfl {Q : Nat} {S : nk_S} : cFw Q S S := ⟨rfl, fun _ _ _ => rfl, fun _ _ => rfl⟩
theorem cFw_trans {Q : Nat} {S1 S2 S3 : nk_S} (h : cFw Q S1 S2) (k : cFw Q S2 S3) : cFw Q S1 S3 := ⟨k.1.trans h.1, fun a x y => (k.2.1 a x y).trans (h.2.1 a x y), fun i x => (k.2.2 i x).trans (h.2.2 i x)⟩
def mFw (P : Nat) (S S' : nk_S) : Prop := S'.2 = S.2 ∧ (∀ a, a ≠ 121 → ¬ (225 ≤ a ∧ a ≤ 228) → a ≠ P + 19 → S'.1 a = S.1 a) ∧ ∀ i, i ≠ 25 → i ≠ 12 → S'.1 121 i = S.1 121 i
theorem mFw_rfl {P : Nat} {S : nk_S} : mFw P S S := ⟨rfl, fun _ _ _ _ => rfl, fun _ _ _ => rfl⟩
theorem mFw_trans {P : Nat} {S1 S2 S3 : nk_S} (h : mFw P S1 S2) (k : mFw P S2 S3) : mFw P S1 S3 := ⟨k.1.trans h.1, fun a x y z => (k.2.1 a x y z).trans (h.2.1 a x y z), fun i x y => (k.2.2 i x y).trans (h.2.2 i x y)⟩
/-- heights of the first bodies -/
def cHt (S : nk_S) (Q : Nat) (p : jP) (n : Nat) : Prop := ∀ (b : Nat) (e : Nat × Nat × Nat × Nat), b < n → p.2.2.2.2.2[b]? = some e → ∀ i, e.1 ≤ i → i < e.2.1 → S.1 (Q + 30) i = (hgt (hMs p.2.2.2.1 p.2.2.2.2.1 e i) : Int)
def rHt (S : nk_S) (P : Nat) (p : jP) (n : Nat) : Prop := ∀ (b : Nat) (e : Nat × Nat × Nat × Nat), b < n → p.2.2.2.2.2[b]? = some e → ∀ i, e.1 ≤ i → i < e.2.1 → S.1 (P + 19) i = hgR (hMs p.2.2.2.1 p.2.2.2.2.1 e i)
/-- what is known of a program with right names -/
def pWf (tx : List (List Int)) (p : jP) : Prop := pOk tx p ∧ (∀ (b : Nat) (x : jB) (e : Nat × Nat × Nat × Nat), p.2.2.2.1[b]? = some x → p.2.2.2.2.2[b]? = some e → wB p.1 p.2.1 p.2.2.1 p.2.2.2.1 p.2.2.2.2.1 b x e) ∧ wA p.2.2.2.2.1 p.2.2.2.1.length p.2.2.2.2.2 ∧ ∀ y ∈ p.2.2.1, tOk p.1 y.2.2
theorem p_pWf {tx : List (List Int)} (h : (fProg tx 20000 20000 0).1 = true) (hr : rsv tx = none) (hok : pOk tx (pgm tx)) : pWf tx (pgm tx) := ⟨hok, (p_wf h hr hok).1, (p_wf h hr hok).2, p_fty h hr⟩
section PWF
variable {tx : List (List Int)} {p : jP}
theorem p_tCx (h : pWf tx p) {b : Nat} {xb : jB} {e : Nat × Nat × Nat × Nat} (hx : p.2.2.2.1[b]? = some xb) (he : p.2.2.2.2.2[b]? = some e) (hc : hCk p.2.2.2.1 p.2.2.2.2.1 (hMs p.2.2.2.1 p.2.2.2.2.1 e) (e.2.1 - e.1) e.1 = none) : tCx p.1 p.2.1 p.2.2.1 p.2.2.2.1 p.2.2.2.2.1 b xb e (hMs p.2.2.2.1 p.2.2.2.2.1 e) := by
  obtain ⟨hok, hw, hA, hf⟩ := h
  have hb := p_hBd hok hw hA hx he
  have hok' := hok
  obtain ⟨o1, o2, o3, o4, o5, o6, o7, o8, o9, o10, o11, o12, o13⟩ := hok
  have hwb := hw b xb e hx he
  have bt := o8 xb (List.mem_of_getElem? hx)
  exact ⟨hwb, h_good hwb hb o11.1 hc, hb, o1, o2, o3, o4, hf, b_ty o8 o2 o7, bt.2.2.2.2.1, bt.2.2.2.2.2, hx, o6.1, o7.1, o11.1, o11.2.1, o11.2.2.1⟩
/-- bodies don't share instructions -/
theorem p_dis (h : pWf tx p) {b b' : Nat} {xb xb' : jB} {e e' : Nat × Nat × Nat × Nat} (hx : p.2.2.2.1[b]? = some xb) (he : p.2.2.2.2.2[b]? = some e) (hx' : p.2.2.2.1[b']? = some xb') (he' : p.2.2.2.2.2[b']? = some e') (hn : b ≠ b') {i : Nat} (h1 : e.1 ≤ i) (h2 : i < e.2.1) : ¬ (e'.1 ≤ i ∧ i < e'.2.1) := by
  intro hh
  have w := h.2.1 b xb e hx he
  have w' := h.2.1 b' xb' e' hx' he'
  have hlen := w.2.2.1
  obtain ⟨x, hi⟩ : ∃ x, p.2.2.2.2.1.1[i]? = some x := ⟨p.2.2.2.2.1.1[i]'(by omega), List.getElem?_eq_getElem (by omega)⟩
  have q := (w.2.2.2.1 i x h1 h2 hi).1
  have q' := (w'.2.2.2.1 i x hh.1 hh.2 hi).1
  omega
theorem p_el (h : pWf tx p) {b : Nat} (hb : b < p.2.2.2.1.length) : ∃ xb e, p.2.2.2.1[b]? = some xb ∧ p.2.2.2.2.2[b]? = some e := by
  have h12 : p.2.2.2.2.2.length = p.2.2.2.1.length := h.1.2.2.2.2.2.2.2.2.2.2.2.1
  exact ⟨p.2.2.2.1[b], p.2.2.2.2.2[b]'(by omega), List.getElem?_eq_getElem hb, List.getElem?_eq_getElem (by omega)⟩
/-- the class at a body -/
theorem c_body {Q : Nat} (hQ : Q = 13 ∨ Q = 49) (h : pWf tx p) {b m : Nat} (hb : b < p.2.2.2.1.length) {S : nk_S} (hp : cPg S Q p) (h0 : S.2 86 0 = Q) (h1 : S.2 86 1 = Q + 1) (hh : cHt S Q p b) : ∃ S', ja_X9_firstWrong_L15 (m + 1) 86 (b : Int) S = (if ccA (fBn p b) < 0 then ja_X9_firstWrong_L15 m 86 ((b + 1 : Nat) : Int) S' else some (ccA (fBn p b), S')) ∧ cFw Q S S' ∧ (fBn p b = none → cHt S' Q p (b + 1)) := by
  obtain ⟨xb, e, hx, he⟩ := p_el h hb
  rw [fBn_at hx he]
  obtain ⟨hok, hw, hA, hf⟩ := id h
  have hwb := hw b xb e hx he
  have hbd := p_hBd hok hw hA hx he
  have hbl : p.2.2.2.1.length ≤ 48 := hok.2.2.2.2.2.2.1.1
  have hlen : S.1 (Q + 9) 0 = (p.2.2.2.1.length : Int) := hp.2.2.2.1
  obtain ⟨A, a1, a2, a3, a4⟩ := c_heights hQ he hwb hbd (p_cHv hok hp h0)
  have FA : cFw Q S A := ⟨a2.1, fun a x y => a2.2.1 a (by omega) (by omega) y, a2.2.2⟩
  have hstep : ja_X9_firstWrong_L15 (m + 1) 86 (b : Int) S = if 0 ≤ ccA (hCk p.2.2.2.1 p.2.2.2.2.1 (hMs p.2.2.2.1 p.2.2.2.2.1 e) (e.2.1 - e.1) e.1) then (if ccA (hCk p.2.2.2.1 p.2.2.2.2.1 (hMs p.2.2.2.1 p.2.2.2.2.1 e) (e.2.1 - e.1) e.1) < 0 then ja_X9_firstWrong_L15 m 86 ((b + 1 : Nat) : Int) A else some (ccA (hCk p.2.2.2.1 p.2.2.2.2.1 (hMs p.2.2.2.1 p.2.2.2.2.1 e) (e.2.1 - e.1) e.1), A)) else nk_bd (ja_X9_wrongType 86 (b : Int) A) fun r6 S7 => if r6 < 0 then ja_X9_firstWrong_L15 m 86 ((b + 1 : Nat) : Int) S7 else some (r6, S7) := by
    show ja_X9_firstWrong_b15 (ja_X9_firstWrong_L15 m) 86 (b : Int) S = _
    unfold ja_X9_firstWrong_b15 ja_X9_firstWrong_b45
    rw [h0, (jc_Qf hQ).2.2.2.2, hlen, if_neg (by omega), a1, bd_some, w_nat1 (by omega)]
    rfl
  unfold fBw
  cases hc : hCk p.2.2.2.1 p.2.2.2.2.1 (hMs p.2.2.2.1 p.2.2.2.2.1 e) (e.2.1 - e.1) e.1 with
  | some i =>
    rw [hc, if_pos (show 0 ≤ ccA (some i) by show (0 : Int) ≤ (i : Int); omega)] at hstep
    exact ⟨A, hstep, FA, fun q => by cases q⟩
  | none =>
    rw [hc, if_neg (show ¬ 0 ≤ ccA none by decide)] at hstep
    have hcx := p_tCx h hx he hc
    have a4' := a4 hc
    have vA : cTv A Q (p.1, p.2.1, p.2.2.1, p.2.2.2.1, p.2.2.2.2.1, p.2.2.2.2.2) e (hMs p.2.2.2.1 p.2.2.2.2.1 e) := by
      refine ⟨by rw [a2.1]; exact h0, by rw [a2.1]; exact h1, cPg_c (fun a x y z => a2.2.1 a (by omega) (by omega) z) hp, fun i q1 q2 => ?_⟩
      rw [a4' i, if_pos ⟨q1, q2⟩]
    obtain ⟨B, X, b1, b2, b3, b4⟩ := c_tyB hQ hcx he vA a3.2.1
    rw [tLS_eq hcx b3 b4] at b1
    rw [b1, bd_some] at hstep
    have FB : cFw Q A B := ⟨b2.1, fun a x _ => b2.2.1 a (by omega) (by omega) (by omega) (by omega) (by omega), b2.2.2⟩
    refine ⟨B, hstep, cFw_trans FA FB, fun _ b' e' q1 q2 i q3 q4 => ?_⟩
    rw [b2.2.1 (Q + 30) (by omega) (by omega) (by omega) (by omega) (by omega), a4' i]
    by_cases c : b' = b
    · subst c
      rw [he] at q2
      cases q2
      rw [if_pos ⟨q3, q4⟩]
    · obtain ⟨xb', e'', hx', he'⟩ := p_el h (show b' < p.2.2.2.1.length by omega)
      rw [he'] at q2
      cases q2
      rw [if_neg (p_dis h hx' he' hx he c q3 q4)]
      exact hh b' _ (by omega) he' i q3 q4
theorem c_bodies {Q : Nat} (hQ : Q = 13 ∨ Q = 49) (h : pWf tx p) : ∀ (d b m : Nat) (S : nk_S), cPg S Q p → S.2 86 0 = Q → S.2 86 1 = Q + 1 → cHt S Q p b → b + d = p.2.2.2.1.length → d < m → ∃ S', ja_X9_firstWrong_L15 m 86 (b : Int) S = some (ccA (fWs p d b), S') ∧ cFw Q S S' ∧ (fWs p d b = none → cHt S' Q p p.2.2.2.1.length) := by
  intro d
  induction d with
  | zero =>
    intro b m S hp h0 h1 hh h2 h3
    obtain ⟨m, rfl⟩ : ∃ q, m = q + 1 := ⟨m - 1, by omega⟩
    have hlen : S.1 (Q + 9) 0 = (p.2.2.2.1.length : Int) := hp.2.2.2.1
    refine ⟨S, ?_, cFw_rfl, fun _ => by rw [show p.2.2.2.1.length = b by omega]; exact hh⟩
    show ja_X9_firstWrong_b15 (ja_X9_firstWrong_L15 m) 86 (b : Int) S = _
    unfold ja_X9_firstWrong_b15
    rw [h0, (jc_Qf hQ).2.2.2.2, hlen, if_pos (by omega)]
    rfl
  | succ d ih =>
    intro b m S hp h0 h1 hh h2 h3
    obtain ⟨m, rfl⟩ : ∃ q, m = q + 1 := ⟨m - 1, by omega⟩
    obtain ⟨A, a1, a2, a3⟩ := c_body (m := m) hQ h (show b < p.2.2.2.1.length by omega) hp h0 h1 hh
    rw [fWs]
    cases hq : fBn p b with
    | some i =>
      rw [hq, if_neg (ccA_s i)] at a1
      exact ⟨A, a1, a2, fun q => by cases q⟩
    | none =>
      rw [hq, if_pos ccA_n] at a1
      obtain ⟨S', s1, s2, s3⟩ := ih (b + 1) m A (cPg_c (fun a x y z => a2.2.1 a (by omega) z) hp) (by rw [a2.1]; exact h0) (by rw [a2.1]; exact h1) (a3 hq) (by omega) (by omega)
      exact ⟨S', by rw [a1]; exact s1, cFw_trans a2 s2, s3⟩
/-- the class looks at heights and types -/
theorem c_fstB {Q : Nat} (hQ : Q = 13 ∨ Q = 49) (h : pWf tx p) {S : nk_S} (hp : cPg S Q p) : ∃ S', ja_X9_firstWrong 86 Q S = some (ccA (fWs p p.2.2.2.1.length 0), S') ∧ (∀ b i, ¬ (b = 86 ∧ i ≤ 1) → S'.2 b i = S.2 b i) ∧ (∀ a, ¬ (86 ≤ a ∧ a ≤ 91) → a ≠ Q + 30 → S'.1 a = S.1 a) ∧ (fWs p p.2.2.2.1.length 0 = none → cHt S' Q p p.2.2.2.1.length) := by
  obtain ⟨bm, hbm⟩ := big_ge 100 (by decide)
  have hbl : p.2.2.2.1.length ≤ 48 := h.1.2.2.2.2.2.2.1.1
  obtain ⟨A, hA⟩ : ∃ A, A = nk_wr (nk_wr S 86 0 Q) 86 1 (Q + 1) := ⟨_, rfl⟩
  have A1 : A.1 = S.1 := by rw [hA]; rfl
  have A2 : ∀ b i, A.2 b i = if b = 86 ∧ i = 1 then Q + 1 else if b = 86 ∧ i = 0 then Q else S.2 b i := fun b i => by rw [hA, wr_2, wr_2]
  have pA : cPg A Q p := cPg_c (fun a _ _ _ => by rw [A1]) hp
  obtain ⟨S', s1, s2, s3⟩ := c_bodies hQ h p.2.2.2.1.length 0 nk_big A pA (by rw [A2, if_neg (by decide), if_pos ⟨rfl, rfl⟩]) (by rw [A2, if_pos ⟨rfl, rfl⟩]) (fun b e q => by omega) (by omega) (by omega)
  refine ⟨S', ?_, fun b i hn => ?_, fun a x y => by rw [s2.2.1 a x y, A1], s3⟩
  · rw [← s1, hA]
    unfold ja_X9_firstWrong
    rw [lt_eq, lt_eq, show ja_c Q 0 = Q + 1 by rcases hQ with rfl | rfl <;> rfl]
    rfl
  · rw [s2.1, A2, if_neg (fun q => hn ⟨q.1, by omega⟩), if_neg (fun q => hn ⟨q.1, by omega⟩)]
/-! the reference -/
def mBa (z : jL) (r : Option Nat) (o nx : Option (Int × nk_S)) (S' : nk_S) : Prop := match r with
  | none => o = nx
  | some i => o = some (4, S') ∧ ∃ x, z.1[i]? = some x ∧ S'.1 121 12 = (x.2.2.2.2 : Int)
theorem m_bdyB {P : Nat} (hP : P = 122 ∨ P = 168) (h : pWf tx p) {b m : Nat} (hb : b < p.2.2.2.1.length) {S : nk_S} (hp : rPg S P p) (hh : rHt S P p b) : ∃ S', mBa p.2.2.2.2.1 (fBn p b) (ja_X13_fault_L70 (m + 1) 121 P (b : Int) S) (ja_X13_fault_L70 m 121 P ((b + 1 : Nat) : Int) S') S' ∧ mFw P S S' ∧ (fBn p b = none → rHt S' P p (b + 1)) := by
  obtain ⟨xb, e, hx, he⟩ := p_el h hb
  rw [fBn_at hx he]
  obtain ⟨hok, hw, hA, hf⟩ := id h
  have hwb := hw b xb e hx he
  have hbd := p_hBd hok hw hA hx he
  have hbl : p.2.2.2.1.length ≤ 48 := hok.2.2.2.2.2.2.1.1
  have hlen : S.1 P 2 = (p.2.2.2.1.length : Int) := hp.2.2.2.2.1
  obtain ⟨A, a1, a2, a3, a4⟩ := m_heights hP he hwb hbd (p_rHv hok hp)
  have FA : mFw P S A := ⟨a2.1, fun a x y z => a2.2.1 a x (by omega) z, fun i _ x => a2.2.2 i x⟩
  have hstep : ja_X13_fault_L70 (m + 1) 121 P (b : Int) S = nk_bd (ja_X13_heights 121 P (b : Int) S) fun r3 S4 => if r3 = 0 then some (4, S4) else nk_bd (ja_X13_types 121 P (b : Int) S4) fun r6 S7 => if r6 = 0 then some (4, S7) else ja_X13_fault_L70 m 121 P ((b + 1 : Nat) : Int) S7 := by
    show ja_X13_fault_b70 (ja_X13_fault_L70 m) 121 P (b : Int) S = _
    unfold ja_X13_fault_b70
    rw [hlen, if_neg (by omega), w_nat1 (by omega)]
    rfl
  unfold fBw
  cases hc : hCk p.2.2.2.1 p.2.2.2.2.1 (hMs p.2.2.2.1 p.2.2.2.2.1 e) (e.2.1 - e.1) e.1 with
  | some i =>
    rw [hc] at a1
    obtain ⟨q1, q2⟩ := a1
    rw [q1, bd_some, if_pos rfl] at hstep
    exact ⟨A, ⟨hstep, q2⟩, FA, fun q => by cases q⟩
  | none =>
    rw [hc] at a1
    have q1 : ja_X13_heights 121 P (b : Int) S = some (1, A) := a1
    rw [q1, bd_some, if_neg (by decide)] at hstep
    have hcx := p_tCx h hx he hc
    have a4' := a4 hc
    have vA : rTv A P (p.1, p.2.1, p.2.2.1, p.2.2.2.1, p.2.2.2.2.1, p.2.2.2.2.2) e (hMs p.2.2.2.1 p.2.2.2.2.1 e) := by
      refine ⟨rPg_c (fun a x y z => a2.2.1 a (by omega) (by omega) z) (a2.2.1 224 (by decide) (by decide) (by omega)) hp, fun i q1 q2 q3 => ?_⟩
      rw [a4' i, if_pos ⟨q1, q2⟩]
      unfold hgR
      rw [if_neg q3]
    obtain ⟨B, X, b1, b2, b3, b4⟩ := m_tyB hP hcx he vA
    rw [tLS_eq hcx b3 b4] at b1
    have FB : mFw P A B := ⟨b2.1, fun a x y _ => b2.2.1 a x (by omega) (by omega) (by omega), b2.2.2⟩
    have hht : rHt B P p (b + 1) := by
      intro b' e' q1 q2 i q3 q4
      rw [b2.2.1 (P + 19) (by omega) (by omega) (by omega) (by omega), a4' i]
      by_cases c : b' = b
      · subst c
        rw [he] at q2
        cases q2
        rw [if_pos ⟨q3, q4⟩]
      · obtain ⟨xb', e'', hx', he'⟩ := p_el h (show b' < p.2.2.2.1.length by omega)
        rw [he'] at q2
        cases q2
        rw [if_neg (p_dis h hx' he' hx he c q3 q4)]
        exact hh b' _ (by omega) he' i q3 q4
    refine ⟨B, ?_, mFw_trans FA FB, fun _ => hht⟩
    show mBa p.2.2.2.2.1 (tFw p.2.1 p.2.2.1 p.2.2.2.1 p.2.2.2.2.1 xb (hMs p.2.2.2.1 p.2.2.2.2.1 e) (tLS p.2.1 p.2.2.1 p.2.2.2.1 p.2.2.2.2.1 b xb (hMs p.2.2.2.1 p.2.2.2.2.1 e) e) (e.2.1 - e.1) e.1) _ _ _
    cases hq : tFw p.2.1 p.2.2.1 p.2.2.2.1 p.2.2.2.2.1 xb (hMs p.2.2.2.1 p.2.2.2.2.1 e) (tLS p.2.1 p.2.2.1 p.2.2.2.1 p.2.2.2.2.1 b xb (hMs p.2.2.2.1 p.2.2.2.2.1 e) e) (e.2.1 - e.1) e.1 with
    | some i =>
      rw [hq] at b1
      obtain ⟨r1, r2⟩ := b1
      rw [r1, bd_some, if_pos rfl] at hstep
      exact ⟨hstep, r2⟩
    | none =>
      rw [hq] at b1
      have r1 : ja_X13_types 121 P (b : Int) A = some (1, B) := b1
      rw [r1, bd_some, if_neg (by decide)] at hstep
      exact hstep
theorem m_bodies {P : Nat} (hP : P = 122 ∨ P = 168) (h : pWf tx p) : ∀ (d b m : Nat) (S : nk_S), rPg S P p → rHt S P p b → b + d = p.2.2.2.1.length → d < m → ∃ S', mBa p.2.2.2.2.1 (fWs p d b) (ja_X13_fault_L70 m 121 P (b : Int) S) (some (0, S')) S' ∧ mFw P S S' ∧ (fWs p d b = none → rHt S' P p p.2.2.2.1.length ∧ S'.1 121 12 = -1) := by
  intro d
  induction d with
  | zero =>
    intro b m S hp hh h2 h3
    obtain ⟨m, rfl⟩ : ∃ q, m = q + 1 := ⟨m - 1, by omega⟩
    have hlen : S.1 P 2 = (p.2.2.2.1.length : Int) := hp.2.2.2.2.1
    refine ⟨nk_wi S 121 12 (-1), ?_, ⟨rfl, fun a x _ _ => by rw [wi_n x], fun i _ y => by rw [wi_at, if_neg y]⟩, fun _ => ⟨fun b' e' q1 q2 i q3 q4 => ?_, by rw [wi_at, if_pos rfl]⟩⟩
    · show ja_X13_fault_b70 (ja_X13_fault_L70 m) 121 P (b : Int) S = _
      unfold ja_X13_fault_b70
      rw [hlen, if_pos (by omega), lt_eq]
    · rw [wi_n (by omega)]
      exact hh b' e' (by omega) q2 i q3 q4
  | succ d ih =>
    intro b m S hp hh h2 h3
    obtain ⟨m, rfl⟩ : ∃ q, m = q + 1 := ⟨m - 1, by omega⟩
    obtain ⟨A, a1, a2, a3⟩ := m_bdyB (m := m) hP h (show b < p.2.2.2.1.length by omega) hp hh
    rw [fWs]
    cases hq : fBn p b with
    | some i =>
      rw [hq] at a1
      exact ⟨A, a1, a2, fun q => by cases q⟩
    | none =>
      rw [hq] at a1
      have q1 : ja_X13_fault_L70 (m + 1) 121 P (b : Int) S = ja_X13_fault_L70 m 121 P ((b + 1 : Nat) : Int) A := a1
      obtain ⟨S', s1, s2, s3⟩ := ih (b + 1) m A (rPg_c (fun a x y z => a2.2.1 a (by omega) (by omega) z) (a2.2.1 224 (by decide) (by decide) (by omega)) hp) (a3 hq) (by omega) (by omega)
      exact ⟨S', by rw [q1]; exact s1, mFw_trans a2 s2, s3⟩
theorem m_first {P : Nat} (hP : P = 122 ∨ P = 168) (h : pWf tx p) {S : nk_S} (hp : rPg S P p) : ∃ S', mBa p.2.2.2.2.1 (fWs p p.2.2.2.1.length 0) (ja_X13_fault_L70 nk_big 121 P 0 S) (some (0, S')) S' ∧ mFw P S S' ∧ (fWs p p.2.2.2.1.length 0 = none → rHt S' P p p.2.2.2.1.length ∧ S'.1 121 12 = -1) := by
  obtain ⟨bm, hbm⟩ := big_ge 100 (by decide)
  have hbl : p.2.2.2.1.length ≤ 48 := h.1.2.2.2.2.2.2.1.1
  exact m_bodies hP h p.2.2.2.1.length 0 nk_big S hp (fun b e q => by omega) (by omega) (by omega)
/-- where the first wrong one stands -/
theorem hCk_s {bl : List jB} {z : jL} {M : Nat → Nat} : ∀ (d i j : Nat), hCk bl z M d i = some j → ∃ x, z.1[j]? = some x := by
  intro d
  induction d with
  | zero => intro i j h; cases h
  | succ d ih =>
    intro i j h
    rw [hCk] at h
    cases hq : z.1[i]? with
    | none => rw [hq] at h; cases h
    | some x =>
      rw [hq] at h
      dsimp only at h
      split at h
      · cases h; exact ⟨x, hq⟩
      · exact ih _ _ h
theorem tFw_s {us : List Int} {fl : List (List Int × Nat × Int)} {bl : List jB} {z : jL} {xb : jB} {M : Nat → Nat} {X : jX} : ∀ (d i j : Nat), tFw us fl bl z xb M X d i = some j → ∃ x, z.1[j]? = some x := by
  intro d
  induction d with
  | zero => intro i j h; cases h
  | succ d ih =>
    intro i j h
    rw [tFw] at h
    cases hq : z.1[i]? with
    | none => rw [hq] at h; exact ih _ _ h
    | some x =>
      rw [hq] at h
      cases hr : X i with
      | none => rw [hr] at h; exact ih _ _ h
      | some u =>
        rw [hr] at h
        dsimp only at h
        split at h
        · exact ih _ _ h
        · cases h; exact ⟨x, hq⟩
theorem fWs_s : ∀ (d b j : Nat), fWs p d b = some j → ∃ x, p.2.2.2.2.1.1[j]? = some x := by
  intro d
  induction d with
  | zero => intro b j h; cases h
  | succ d ih =>
    intro b j h
    rw [fWs] at h
    cases hq : fBn p b with
    | none => rw [hq] at h; exact ih _ _ h
    | some i =>
      rw [hq] at h
      have e : i = j := by cases h; rfl
      subst e
      unfold fBn at hq
      split at hq
      · unfold fBw at hq
        rename_i xb e' _ _
        cases hc : hCk p.2.2.2.1 p.2.2.2.2.1 (hMs p.2.2.2.1 p.2.2.2.2.1 e') (e'.2.1 - e'.1) e'.1 with
        | some k =>
          rw [hc] at hq
          have e2 : k = i := by cases hq; rfl
          subst e2
          exact hCk_s _ _ _ hc
        | none =>
          rw [hc] at hq
          exact tFw_s _ _ _ hq
      · cases hq
end PWF
