/-! The class sends: the loop over the sites. -/
theorem oJ_ub (a c : Option jW) : oLe a (oJ a c) ∧ oLe c (oJ a c) := by
  cases a with
  | none => exact ⟨(fun w q => by cases q), fun w q => ⟨w, q, wle_refl _⟩⟩
  | some a =>
    cases c with
    | none => exact ⟨fun w q => ⟨w, q, wle_refl _⟩, (fun w q => by cases q)⟩
    | some c => exact ⟨(fun w q => by cases q; exact ⟨_, rfl, (wJn_ub _ _).1⟩), (fun w q => by cases q; exact ⟨_, rfl, (wJn_ub _ _).2⟩)⟩
theorem oJ_lub {a c o : Option jW} (h : oLe a o) (k : oLe c o) : oLe (oJ a c) o := by
  cases a with
  | none => exact k
  | some a =>
    cases c with
    | none => exact h
    | some c =>
      intro w q
      cases q
      obtain ⟨w1, q1, q2⟩ := h a rfl
      obtain ⟨w2, r1, r2⟩ := k c rfl
      rw [q1] at r1
      cases r1
      exact ⟨w1, q1, wJn_lub q2 r2⟩
theorem oLe_tr {a c d : Option jW} (h : oLe a c) (k : oLe c d) : oLe a d := fun w q => by
  obtain ⟨w1, q1, q2⟩ := h w q
  obtain ⟨w2, r1, r2⟩ := k w1 q1
  exact ⟨w2, r1, wle_trans q2 r2⟩
theorem fJ_ub {f : Nat → Option jW} {s : Nat → Bool} : ∀ n m, m < n → s m = true → oLe (f m) (fJ f s n) := by
  intro n
  induction n with
  | zero => intro m h; omega
  | succ n ih =>
    intro m h1 h2
    show oLe (f m) (oJ (fJ f s n) (if s n = true then f n else none))
    by_cases e : m = n
    · rw [← e, if_pos h2]; exact (oJ_ub _ _).2
    · exact oLe_tr (ih m (by omega) h2) (oJ_ub _ _).1
theorem fJ_lub {f : Nat → Option jW} {s : Nat → Bool} {o : Option jW} : ∀ n, (∀ m, m < n → s m = true → oLe (f m) o) → oLe (fJ f s n) o := by
  intro n
  induction n with
  | zero => intro _ w q; cases q
  | succ n ih =>
    intro h
    show oLe (oJ (fJ f s n) (if s n = true then f n else none)) o
    refine oJ_lub (ih (fun m hm => h m (by omega))) ?_
    split
    · exact h n (by omega) (by assumption)
    · exact fun w q => by cases q
theorem oLe_anti {F : Int → Prop} {a c : Option jW} (ha : ∀ w, a = some w → wOk F w) (hc : ∀ w, c = some w → wOk F w) (h : oLe a c) (k : oLe c a) : a = c := by
  cases a with
  | none =>
    cases c with
    | none => rfl
    | some c => obtain ⟨w, q, -⟩ := k c rfl; cases q
  | some a =>
    obtain ⟨w, q1, q2⟩ := h a rfl
    obtain ⟨w', r1, r2⟩ := k w q1
    cases r1
    rw [q1, wle_anti (ha a rfl) (hc w q1) q2 r2]
/-- the same joined over other numbers -/
theorem fJ_same {F : Int → Prop} {us : List Int} {z : jL} {t : Int} (ht : t = 1 ∨ 2 ≤ t) {f g : Nat → Option jW} {s r : Nat → Bool} {n m : Nat} (hf : ∀ a w, a < n → s a = true → f a = some w → vl1 F us z t w) (hg : ∀ a w, a < m → r a = true → g a = some w → vl1 F us z t w) (h1 : ∀ a, a < n → s a = true → f a = none ∨ ∃ b, b < m ∧ r b = true ∧ g b = f a) (h2 : ∀ b, b < m → r b = true → g b = none ∨ ∃ a, a < n ∧ s a = true ∧ f a = g b) : fJ f s n = fJ g r m := by
  refine oLe_anti (F := F) (fun w q => (fJ_v ht n hf w q).1.1) (fun w q => (fJ_v ht m hg w q).1.1) (fJ_lub n (fun a ha hs => ?_)) (fJ_lub m (fun b hb hr => ?_))
  · rcases h1 a ha hs with q | ⟨b, b1, b2, b3⟩
    · rw [q]; exact fun w q => by cases q
    · rw [← b3]; exact fJ_ub m b b1 b2
  · rcases h2 b hb hr with q | ⟨a, a1, a2, a3⟩
    · rw [q]; exact fun w q => by cases q
    · rw [← a3]; exact fJ_ub n a a1 a2
section CSL
variable {ns : List (List Int)} {us : List Int} {fl : List (List Int × Nat × Int)} {bl : List jB} {z : jL} {el : List (Nat × Nat × Nat × Nat)} {F : Int → Prop} {dn up : Int → Int} {H lc : Nat → Nat} {ty : Nat → Option (Nat → Int)} {th : Nat → Int} {n Q m0 : Nat} {σ : jG} {C : jH} {i : Nat} {x : jC} {u : jQ}
theorem bod_at (hC : pCx F dn up ns us fl bl z el H lc ty) {b : Nat} {y : jB} (hb : bl[b]? = some y) : ∃ e x0, el[b]? = some e ∧ z.1[e.1]? = some x0 ∧ x0.2.2.2.1 = b ∧ H e.1 = 0 ∧ y.ps.length ≤ lc e.1 := by
  obtain ⟨hT, hs, hov, huO, h32, h8, hz, hin, hbd, hop⟩ := hC
  obtain ⟨e, x0, r1, r2, r3⟩ := hbd b y hb
  obtain ⟨xb, e', M, X, g1, g2, g3, g4, g5, g6, g7, -⟩ := hin e.1 x0 r2
  rw [r3, hb] at g1
  cases g1
  rw [r3, r1] at g2
  cases g2
  obtain ⟨f1, f2, f3⟩ := g6 e.1 g3 g4
  have plc := g5.2.2.2.2.2.2.2.2.2.1
  exact ⟨e, x0, r1, r2, r3, by rw [f1]; exact g5.2.1.2.1, by rw [f2]; omega⟩
theorem wBr_ok {w : jW} (h : wOk F w) : wOk F (wBr w) := by
  refine ⟨(fun k h => by cases h), (fun j h => by cases h), ?_⟩
  rcases h.2.2 with q | q | q
  · left; rw [q]; rfl
  · exact Or.inr (Or.inl q)
  · exact Or.inr (Or.inr q)
theorem pEn_wo {y : jB} {low : Nat} {o : Option Nat} (h : ∀ k, wOk F (u k)) (ho : ∀ s, o = some s → s < 54) : ∀ k, wOk F (pEn y u low o k) := by
  intro k
  unfold pEn
  split
  · cases o with
    | none => exact wBr_ok (h _)
    | some s =>
      dsimp only
      split
      · exact ⟨(fun k h => by cases h), (fun j h => by cases h), Or.inr (Or.inr ⟨rfl, rfl, ⟨s, onS_at s⟩, fun j hj => by rw [onS_eq hj]; exact Or.inl (ho s rfl)⟩)⟩
      · exact wBr_ok (h _)
  · exact wU_ok
theorem pEn_12 {y : jB} {v : jQ} {low : Nat} {o : Option Nat} (hl : 12 ≤ low) (h : ∀ k, 12 ≤ k → v k = u k) : pEn y v low o = pEn y u low o := by
  funext k
  unfold pEn
  split
  · cases o with
    | none => dsimp only; rw [h _ (by omega)]
    | some s =>
      dsimp only
      split
      · rfl
      · rw [h _ (by omega)]
  · rfl
/-- the body that a site's object runs -/
abbrev sRn (us : List Int) (bl : List jB) (z : jL) (y : jB) (s : Nat) : Int := rnS us bl (cl (sTp z s)) y
/-- the sites whose objects run something -/
def sGo (us : List Int) (bl : List jB) (z : jL) (y : jB) (w : Nat → Bool) (s : Nat) : Bool := w s && decide (0 ≤ sRn us bl z y s)
/-- what the sends to the sites below s have brought -/
def sdI (th : Nat → Int) (n : Nat) (us : List Int) (bl : List jB) (z : jL) (el : List (Nat × Nat × Nat × Nat)) (H lc : Nat → Nat) (σ : jG) (y : jB) (u : jQ) (low : Nat) (w : Nat → Bool) (S0 : nk_S) (A : jA) (W : Nat → Bool) (r l : Nat → Bool) (s : Nat) (S : nk_S) (A' : jA) (W' : Nat → Bool) : Prop :=
  (S.2 = S0.2 ∧ (∀ a, a < 92 ∨ a = 93 ∨ 98 ≤ a → S.1 a = S0.1 a) ∧ S.1 92 11 = S0.1 92 11) ∧ aCh th n A W A' W'
  ∧ cRs S (nlR (exB (fun k => sGo us bl z y w k && sEx (σ.2.2 (sRn us bl z y k).toNat)) s) 7 r) (sOr l (fun j => exB (fun k => sGo us bl z y w k && σ.2.2 (sRn us bl z y k).toNat j) s))
  ∧ S.1 92 13 = bi (exB (fun k => sGo us bl z y w k && σ.2.1 (sRn us bl z y k).toNat) s)
  ∧ cVl y.rs (S.1 92 12) (fJ (fun k => if σ.2.1 (sRn us bl z y k).toNat = true then σ.1 (2700 + (sRn us bl z y k).toNat) else none) (sGo us bl z y w) s)
  ∧ ∀ (k b : Nat) (y' : jB) (e : Nat × Nat × Nat × Nat), k < s → w k = true → sRn us bl z y k = (b : Int) → bl[b]? = some y' → el[b]? = some e → ∃ t, A' e.1 = some t ∧ qLe (qRs (lc e.1) (H e.1) (pEn y' u low (some k))) t
theorem nlR_2 (a b : Bool) (e : Nat) (r : Nat → Bool) : nlR b e (nlR a e r) = nlR (a || b) e r := by
  funext j
  rw [nlR_at, nlR_at, nlR_at]
  cases r j <;> cases a <;> cases b <;> cases decide (j = e) <;> rfl
theorem c_sdL {A0 : jA} (hk : kX F th n dn up ns us fl bl z el H lc ty Q) (hx : z.1[i]? = some x) (ho : x.1 = 40) {f : Nat} {y : jB} (hxf : x.2.1 = (f : Int)) (hf : bl[f]? = some y) (hme : y.me = true) (hlk : pLk F (dn, up, (ns, us, fl, bl, z, el), H) lc ty m0 i x u σ) (hg : gOk F us fl bl z σ) (hrs : rsI bl σ) {v : jQ} (hdr : pDr u (12 + H i - tkX bl x) = some v) (htk : tkX bl x = y.ps.length) (htl : tkX bl x ≤ H i) (hH8 : H i ≤ 8) (hv12 : ∀ k, 12 ≤ k → v k = u k) (hvw : ∀ k, wOk F (v k)) (hk2 : (u (12 + H i - tkX bl x)).1 = 2) (hw : ∀ s, s < 54 → (u (12 + H i - tkX bl x)).2.2.1 s = true → s < z.2.1.length ∧ cl (sTp z s) < us.length ∧ 4 ≤ sTp z s ∧ sTp z s < 100) (hrt : y.rs = 1 ∨ 2 ≤ y.rs ∨ y.rs = -1) (hln : lnI z A0 σ) (hA0 : A0 i = some u) {sv : Int} (hsv : cV sv (u (12 + H i - tkX bl x)).2.2.1) {S0 : nk_S} {A : jA} {W : Nat → Bool} {r l : Nat → Bool} (hrw : cRw (lc i) (H i) S0 v) : ∀ (d s m : Nat) (S : nk_S) (A' : jA) (W' : Nat → Bool), s + d = z.2.1.length → lkI F dn up ns us fl bl z el H lc ty m0 Q S A' W' σ C → sdI th n us bl z el H lc σ y u (12 + H i - tkX bl x) (u (12 + H i - tkX bl x)).2.2.1 S0 A W r l s S A' W' → ∃ S2 A2 W2, ja_X4_calls_L128 (m + d + 1) 92 (f : Int) (y.ps.length : Int) ((12 + H i - tkX bl x : Nat) : Int) y.rs sv (s : Int) S = ja_X4_calls_b207 92 (y.ps.length : Int) y.rs S2 ∧ lkI F dn up ns us fl bl z el H lc ty m0 Q S2 A2 W2 σ C ∧ sdI th n us bl z el H lc σ y u (12 + H i - tkX bl x) (u (12 + H i - tkX bl x)).2.2.1 S0 A W r l z.2.1.length S2 A2 W2 := by
  obtain ⟨hQ, hC, hF, hN, hz⟩ := id hk
  obtain ⟨low, hlow⟩ : ∃ low, low = 12 + H i - tkX bl x := ⟨_, rfl⟩
  obtain ⟨w, hww⟩ : ∃ w, w = (u (12 + H i - tkX bl x)).2.2.1 := ⟨_, rfl⟩
  have hz48 := hz.2.1
  obtain ⟨t, xb, e, a1, ⟨⟨-, -, p3, -⟩, -, -, -, -, -, ⟨l1, l2, l3, l4, l5⟩, -⟩⟩ : ∃ t xb e, ty i = some t ∧ pAf ns us fl bl z el H lc i x t xb e := by
    obtain ⟨-, ⟨t, ht, -⟩, -⟩ := hlk
    obtain ⟨xb, e, h⟩ := pAt hC hx ht
    exact ⟨t, xb, e, ht, h⟩
  have hf48 := bl_48 l2 hf
  intro d
  induction d with
  | zero =>
    intro s m S A' W' hs hI hD
    refine ⟨S, A', W', ?_, hI, by rw [show s = z.2.1.length by omega] at hD; exact hD⟩
    have hc : S.1 Q 10 = (z.2.1.length : Int) := hI.1.2.2.1.2.2.2.2.2.2.2.2.1.2.1.1
    show ja_X4_calls_b128 _ 92 _ _ _ _ _ _ _ = _
    unfold ja_X4_calls_b128
    rw [hI.1.1, hc, if_pos (by omega)]
  | succ d ih =>
    intro s m S A' W' hs hI hD
    have hc : S.1 Q 10 = (z.2.1.length : Int) := hI.1.2.2.1.2.2.2.2.2.2.2.2.1.2.1.1
    have e1 : ∀ _ : Unit, nk_w ((s : Int) + 1) = ((s + 1 : Nat) : Int) := fun _ => w_nat1 (by omega)
    have hbit := c_bitAt hsv (k := s) (by omega)
    obtain ⟨⟨f1, f2, f3⟩, g1, g2, g3, g4, g5⟩ := id hD
    -- nothing happens at a site
    have skip : sGo us bl z y (u (12 + H i - tkX bl x)).2.2.1 s = false → sdI th n us bl z el H lc σ y u (12 + H i - tkX bl x) (u (12 + H i - tkX bl x)).2.2.1 S0 A W r l (s + 1) S A' W' := by
      intro hn
      have ex : ∀ P : Nat → Bool, exB (fun k => sGo us bl z y (u (12 + H i - tkX bl x)).2.2.1 k && P k) (s + 1) = exB (fun k => sGo us bl z y (u (12 + H i - tkX bl x)).2.2.1 k && P k) s := fun P => by
        rw [exB_s, hn, Bool.false_and, Bool.or_false]
      refine ⟨⟨f1, f2, f3⟩, g1, ?_, ?_, ?_, fun k b y' e' hk' hwk hb hy' he' => ?_⟩
      · rw [ex]
        have : (fun j => exB (fun k => sGo us bl z y (u (12 + H i - tkX bl x)).2.2.1 k && σ.2.2 (sRn us bl z y k).toNat j) (s + 1)) = fun j => exB (fun k => sGo us bl z y (u (12 + H i - tkX bl x)).2.2.1 k && σ.2.2 (sRn us bl z y k).toNat j) s := by
          funext j; exact ex _
        rw [this]
        exact g2
      · rw [ex]; exact g3
      · rw [fJ, if_neg (by rw [hn]; decide), oJ_n]; exact g4
      · by_cases e0 : k = s
        · rw [e0] at hwk hb
          unfold sGo at hn
          rw [hwk, hb, decide_eq_true (by omega)] at hn
          cases hn
        · exact g5 k b y' e' (by omega) hwk hb hy' he'
    by_cases hb0 : (u (12 + H i - tkX bl x)).2.2.1 s = false
    · obtain ⟨S2, A2, W2, q1, q2⟩ := ih (s + 1) m S A' W' (by omega) hI (skip (by unfold sGo; rw [hb0, Bool.false_and]))
      refine ⟨S2, A2, W2, ?_, q2⟩
      show ja_X4_calls_b128 (ja_X4_calls_L128 (m + d + 1)) 92 _ _ _ _ _ _ _ = _
      unfold ja_X4_calls_b128
      rw [hI.1.1, hc, if_neg (by omega), if_pos (hbit.mpr hb0), lt_eq, e1 ()]
      exact q1
    · have hb1 : (u (12 + H i - tkX bl x)).2.2.1 s = true := by
        cases hq : (u (12 + H i - tkX bl x)).2.2.1 s with
        | true => rfl
        | false => exact absurd hq hb0
      obtain ⟨w1, w2, w3, w4⟩ := hw s (by omega) hb1
      have hty : S.1 (Q + 31) s = sTp z s := by
        obtain ⟨t0, ht0⟩ : ∃ t0, z.2.1[s]? = some t0 := ⟨_, List.getElem?_eq_getElem w1⟩
        rw [hI.1.2.2.1.2.2.2.2.2.2.2.2.1.2.1.2.1 s t0 ht0]
        unfold sTp
        rw [if_pos w1, List.getD_eq_getElem?_getD, ht0, Option.getD_some]
      have h32 := hC.2.2.2.2.1
      have hrn : S.1 (Q + 22) (cl (sTp z s) * 48 + f) = sRn us bl z y s := hI.1.2.2.1.2.2.2.2.2.2.2.1 (cl (sTp z s)) f y w2 hf
      have hidx : ∀ _ : Unit, nk_w (nk_w ((cl (sTp z s) : Int) * 48) + (f : Int)) = ((cl (sTp z s) * 48 + f : Nat) : Int) := fun _ => by
        have h1 : ((cl (sTp z s) : Nat) : Int) < 32 := by omega
        have h2 : ((cl (sTp z s) * 48 + f : Nat) : Int) = (cl (sTp z s) : Int) * 48 + (f : Int) := by omega
        rw [h2, nk_w_id (z := (cl (sTp z s) : Int) * 48) (by omega) (by omega), nk_w_id (z := (cl (sTp z s) : Int) * 48 + (f : Int)) (by omega) (by omega)]
      have hrun : ja_X0_running (Q + 9) (cl (sTp z s) : Int) (f : Int) S = some (sRn us bl z y s, S) := by
        unfold ja_X0_running
        rw [if_neg (by omega), if_neg (by omega), hidx (), if_pos ⟨by omega, by omega⟩, (jc_Qb hQ).2.2.2.2.2, Int.toNat_natCast, hrn]
      -- to the body
      have head : ∀ R, (∀ nb, nb = bi (decide (y.rs = 1)) → ja_X4_calls_b198 (ja_X4_calls_L128 (m + d + 1)) 92 (f : Int) (y.ps.length : Int) ((12 + H i - tkX bl x : Nat) : Int) y.rs sv (s : Int) 92 (sRn us bl z y s) ((12 + H i - tkX bl x : Nat) : Int) (nk_lshl 1 (s : Int)) nb S = R) → ja_X4_calls_L128 (m + (d + 1) + 1) 92 (f : Int) (y.ps.length : Int) ((12 + H i - tkX bl x : Nat) : Int) y.rs sv (s : Int) S = R := by
        intro R hR
        show ja_X4_calls_b128 (ja_X4_calls_L128 (m + d + 1)) 92 _ _ _ _ _ _ _ = _
        unfold ja_X4_calls_b128
        rw [hI.1.1, hc, if_neg (by omega), if_neg (fun q => hb0 (hbit.mp q)), if_pos ⟨by omega, by omega⟩, (jc_Q2 hQ).2.2.1, Int.toNat_natCast, hty, c_cls ⟨w3, w4⟩, bd_some, (jc_Q2 hQ).1, hrun, bd_some]
        by_cases d1 : y.rs = 1
        · rw [if_pos d1]; exact hR 1 (by rw [decide_eq_true d1]; rfl)
        · rw [if_neg d1]; exact hR 0 (by rw [decide_eq_false d1]; rfl)
      by_cases hneg : 0 ≤ sRn us bl z y s
      · obtain ⟨b, hb⟩ : ∃ b : Nat, sRn us bl z y s = (b : Int) := ⟨(sRn us bl z y s).toNat, by omega⟩
        obtain ⟨y', v1, v2, v3, v4, v5, v6, v7⟩ := hC.2.2.1 (cl (sTp z s)) f b y w2 hf hme hb
        obtain ⟨e', x0, r1, r2, r3, r4, r5⟩ := bod_at hC v1
        have eb : (sRn us bl z y s).toNat = b := by rw [hb]; rfl
        have hth : ∀ j, σ.2.2 b j = true → j < 63 := fun j q => by have := sV_54 l4 j (hg.2.1 b j q); omega
        have hAw := aWf_of hI.2.2.2.2.2.1.1
        have hoj : ∀ wv, fJ (fun k => if σ.2.1 (sRn us bl z y k).toNat = true then σ.1 (2700 + (sRn us bl z y k).toNat) else none) (sGo us bl z y (u (12 + H i - tkX bl x)).2.2.1) s = some wv → vl1 F us z y.rs wv ∧ y.rs ≠ -1 := by
          have hone : ∀ m wv, m < s → sGo us bl z y (u (12 + H i - tkX bl x)).2.2.1 m = true → (if σ.2.1 (sRn us bl z y m).toNat = true then σ.1 (2700 + (sRn us bl z y m).toNat) else none) = some wv → vl1 F us z y.rs wv ∧ y.rs ≠ -1 := fun m wv hm hgo hq => by
            split at hq
            · unfold sGo at hgo
              rw [Bool.and_eq_true] at hgo
              have h0 := of_decide_eq_true hgo.2
              obtain ⟨y2, z1, z2, z3, z4, -⟩ := hC.2.2.1 (cl (sTp z m)) f (sRn us bl z y m).toNat y (hw m (by omega) hgo.1).2.1 hf hme (by show sRn us bl z y m = _; omega)
              have := (hg.1 _ _ hq).2
              rw [zT_r z1, z4] at this
              refine ⟨this, fun q => ?_⟩
              rw [hrs _ y2 z1 (by rw [z4]; exact q)] at hq
              cases hq
            · cases hq
          intro wv hq
          by_cases hm1 : y.rs = -1
          · exfalso
            have nn : ∀ m, m ≤ s → fJ (fun k => if σ.2.1 (sRn us bl z y k).toNat = true then σ.1 (2700 + (sRn us bl z y k).toNat) else none) (sGo us bl z y (u (12 + H i - tkX bl x)).2.2.1) m = none := by
              intro m
              induction m with
              | zero => intro _; rfl
              | succ m ihm =>
                intro hm
                rw [fJ, ihm (by omega)]
                show (if _ then _ else _) = none
                split
                · cases hq' : (if σ.2.1 (sRn us bl z y m).toNat = true then σ.1 (2700 + (sRn us bl z y m).toNat) else none) with
                  | none => rfl
                  | some wv' => exact absurd hm1 (hone m wv' (by omega) (by assumption) hq').2
                · rfl
            rw [nn s (Nat.le_refl _)] at hq
            cases hq
          · exact ⟨fJ_v (by omega) s (fun m wv hm hgo hq => (hone m wv hm hgo hq).1) wv hq, hm1⟩
        have hr1 : cRw (lc i) (H i) S v := by
          unfold cRw
          rw [f2 93 (by omega), f2 98 (by omega), f2 99 (by omega)]
          exact hrw
        have h54 : s < 54 := by omega
        obtain ⟨S1, c, s1, s2, s3, s4, s5, s6, s7, s8, s9, s10⟩ := c_enterB (p := (ns, us, fl, bl, z, el)) (G := (dn, up, (ns, us, fl, bl, z, el), H)) (u := v) (y := y') (b := b) (e := e') (low := 12 + H i - tkX bl x) (ob := some s) (l5 := nk_lshl 1 (s : Int)) hQ hC.1 hI.1 hz rfl hg hI.2.2.2.2.1 hI.2.2.1 hAw hI.2.2.2.1 g2 hr1 l2 v1 r1 r2 r3 r4 r5 ⟨by omega, by omega⟩ hH8 ⟨by omega, cV_one (by omega), fun q => by
          have h0 := (cV_z (cV_one (n := s) (by omega))).mp q s (by omega)
          rw [onS_at] at h0; cases h0⟩ (fun _ => by rw [hv12 _ (by omega)]; exact hk2) (pEn_wo hvw (fun s' q => by cases q; exact h54)) hth hrt v4 (fun wv q => (hoj wv q).1) (fun q => by
          cases hq : fJ (fun k => if σ.2.1 (sRn us bl z y k).toNat = true then σ.1 (2700 + (sRn us bl z y k).toNat) else none) (sGo us bl z y (u (12 + H i - tkX bl x)).2.2.1) s with
          | none => rfl
          | some wv => exact absurd q (hoj wv hq).2) (fun q => hrs b y' v1 (by rw [v4]; exact q)) g4
        rw [pEn_12 (by omega) hv12] at s5 s7
        obtain ⟨j1, j2⟩ := aCh_arr (W := W') hN (j := e'.1) (by have := at_lt r2; omega) hI.1.2.2.2.2 hAw (qRs_wf (l := lc e'.1) (g := H e'.1) (pEn_wo (u := u) (y := y') (low := 12 + H i - tkX bl x) (o := some s) (by obtain ⟨-, ⟨t', -, hr'⟩, -⟩ := hlk; exact hr'.1.1) (fun s' q => by cases q; exact h54))) s7
        have hE : pEd (dn, up, (ns, us, fl, bl, z, el), H) σ i x u lc e'.1 (qRs (lc e'.1) (H e'.1) (pEn y' u (12 + H i - tkX bl x) (some s))) := Or.inr (Or.inr (Or.inr (Or.inr ⟨ho, by rw [show pDr u (12 + zH (dn, up, (ns, us, fl, bl, z, el), H) i - tkX (zBl (dn, up, (ns, us, fl, bl, z, el), H)) x) = some v from hdr]; rfl, s, b, y, y', e', h54, hb1, by rw [hxf, Int.toNat_natCast]; exact hf, hb, v1, r1, rfl, rfl⟩)))
        obtain ⟨o1, -⟩ := pIn_arr hC hI.2.2.2.2.2.1 hlk hE
        have fr : mFr S S1 := ⟨s2, fun a ha => s3 a (by omega)⟩
        have hgo : sGo us bl z y (u (12 + H i - tkX bl x)).2.2.1 s = true := by unfold sGo; rw [hb1, decide_eq_true hneg]; rfl
        have hI1 : lkI F dn up ns us fl bl z el H lc ty m0 Q S1 (aArr A' e'.1 (qRs (lc e'.1) (H e'.1) (pEn y' u (12 + H i - tkX bl x) (some s)))) (fun i => if i = e'.1 ∧ c = true then true else W' i) σ C := ⟨cPv_m hQ fr hI.1, cFy_m fr hI.2.1, s5, s6, cGm_1 (fun a h1 h2 => s3 a (by omega)) hI.2.2.2.2.1, o1, lnI_arr hI.2.2.2.2.2.2.1 (qI_rs (pEn_I (hln.1 i u hA0) _ (fun s' q => by cases q; exact hln.1 i u hA0 _ s hb1)) _ _), hI.2.2.2.2.2.2.2⟩
        have hD1 : sdI th n us bl z el H lc σ y u (12 + H i - tkX bl x) (u (12 + H i - tkX bl x)).2.2.1 S0 A W r l (s + 1) S1 (aArr A' e'.1 (qRs (lc e'.1) (H e'.1) (pEn y' u (12 + H i - tkX bl x) (some s)))) (fun i => if i = e'.1 ∧ c = true then true else W' i) := by
          refine ⟨⟨by rw [s2]; exact f1, fun a ha => by rw [s3 a ha]; exact f2 a ha, by rw [s4 11 (by decide) (by decide) (by decide) (by decide)]; exact f3⟩, aCh_trans g1 j1, ?_, ?_, ?_, fun k b' y2 e2 hk' hwk hb' hy' he' => ?_⟩
          · rw [exB_s, hgo, Bool.true_and, eb, ← nlR_2]
            have : sOr l (fun j => exB (fun k => sGo us bl z y (u (12 + H i - tkX bl x)).2.2.1 k && σ.2.2 (sRn us bl z y k).toNat j) (s + 1)) = sOr (sOr l (fun j => exB (fun k => sGo us bl z y (u (12 + H i - tkX bl x)).2.2.1 k && σ.2.2 (sRn us bl z y k).toNat j) s)) (σ.2.2 b) := by
              funext j
              show (l j || exB _ (s + 1)) = ((l j || exB _ s) || σ.2.2 b j)
              rw [exB_s, hgo, Bool.true_and, eb, Bool.or_assoc]
            rw [this]
            exact s8
          · rw [exB_s, hgo, Bool.true_and, eb, s9, g3]
            cases σ.2.1 b with
            | true => rw [if_pos rfl, Bool.or_true]; rfl
            | false => rw [if_neg (by decide), Bool.or_false]
          · rw [fJ, if_pos hgo, eb]
            exact s10
          · by_cases e0 : k = s
            · rw [e0] at hwk hb' ⊢
              rw [hb] at hb'
              have : b' = b := by omega
              subst this
              rw [v1] at hy'
              cases hy'
              rw [r1] at he'
              cases he'
              exact (aLe_arr A' _ _).2
            · obtain ⟨t', q1, q2⟩ := g5 k b' y2 e2 (by omega) hwk hb' hy' he'
              obtain ⟨t2, q3, q4⟩ := j1.1 _ t' q1
              exact ⟨t2, q3, qLe_trans q2 q4⟩
        obtain ⟨S2, A2, W2, q1, q2⟩ := ih (s + 1) m S1 _ _ (by omega) hI1 hD1
        refine ⟨S2, A2, W2, head _ (fun nb hnb => ?_), q2⟩
        unfold ja_X4_calls_b198
        rw [hnb, hb, s1, bd_some, lt_eq, e1 ()]
        exact q1
      · obtain ⟨S2, A2, W2, q1, q2⟩ := ih (s + 1) m S A' W' (by omega) hI (skip (by unfold sGo; rw [decide_eq_false hneg, Bool.and_false]))
        refine ⟨S2, A2, W2, head _ (fun nb _ => ?_), q2⟩
        unfold ja_X4_calls_b198 ja_X4_enterBody
        rw [if_neg hneg, bd_some, lt_eq, e1 ()]
        exact q1
end CSL
