/-! The proof: what an instruction uses of the table. -/
theorem ite_cg {α : Type} {c : Prop} [Decidable c] {a b a' b' : α} (h1 : c → a = a') (h2 : ¬ c → b = b') : (if c then a else b) = if c then a' else b' := by
  by_cases h : c
  · rw [if_pos h, if_pos h, h1 h]
  · rw [if_neg h, if_neg h, h2 h]
theorem oB_cg {α β : Type} {o : Option α} {f g : α → Option β} (h : ∀ a, o = some a → f a = g a) : oB o f = oB o g := by
  cases o with
  | none => rfl
  | some a => exact h a rfl
theorem fJ_cg {f g : Nat → Option jW} {s : Nat → Bool} : ∀ n, (∀ m, m < n → s m = true → f m = g m) → fJ f s n = fJ g s n := by
  intro n
  induction n with
  | zero => intro _; rfl
  | succ n ih =>
    intro h
    show oJ (fJ f s n) (if s n = true then f n else none) = oJ (fJ g s n) (if s n = true then g n else none)
    rw [ih (fun m hm => h m (by omega))]
    by_cases c : s n = true
    · rw [if_pos c, if_pos c, h n (by omega) c]
    · rw [if_neg c, if_neg c]
theorem exB_cg {f g : Nat → Bool} : ∀ n, (∀ k, k < n → f k = g k) → exB f n = exB g n := by
  intro n
  induction n with
  | zero => intro _; rfl
  | succ n ih =>
    intro h
    show (exB f n || f n) = (exB g n || g n)
    rw [ih (fun k hk => h k (by omega)), h n (by omega)]
/-- two tables are the same where an instruction reads -/
def gSame (G : jZ) (x : jC) (h : Nat) (u : jQ) (σ τ : jG) : Prop :=
  (x.1 = 35 → ∀ s, s < 54 → τ.1 (s * 48 + x.2.1.toNat) = σ.1 (s * 48 + x.2.1.toNat))
  ∧ (x.1 = 32 ∨ x.1 = 33 ∨ x.1 = 34 → ∀ s, s < 54 → (u (12 + h - tkX (zBl G) x)).2.2.1 s = true → τ.1 (2592 + s) = σ.1 (2592 + s) ∧ τ.1 (2646 + s) = σ.1 (2646 + s))
  ∧ (x.1 = 39 ∨ x.1 = 40 → ∀ b, b < 48 → pMt (zUs G) (zBl G) (zZ G) x u (12 + h - tkX (zBl G) x) b = true → τ.1 (2700 + b) = σ.1 (2700 + b) ∧ τ.2.1 b = σ.2.1 b ∧ τ.2.2 b = σ.2.2 b)
section PLO
variable {G : jZ} {σ τ : jG} {x : jC} {h : Nat} {u : jQ}
theorem qKp_sub {u v : jQ} {s : Nat} {K : Nat → Bool} (hv : qKp u s K = some v) : ∀ k, sLe (v k).2.2.1 (u k).2.2.1 := by
  unfold qKp at hv
  split at hv
  · cases hv; exact fun k => sLe_refl _
  · rename_i c _
    split at hv
    · cases hv
      intro k j q
      by_cases e : k = c
      · rw [e, qUp_at] at q
        have q : ((u c).2.2.1 j && K j) = true := q
        rw [Bool.and_eq_true] at q
        rw [e]; exact q.1
      · rw [qUp_ne e] at q; exact q
    · cases hv
theorem pDr_sub {u v : jQ} {r : Nat} (hv : pDr u r = some v) : ∀ k, sLe (v k).2.2.1 (u k).2.2.1 := by
  unfold pDr at hv
  split at hv
  · exact qKp_sub hv
  · cases hv
theorem tk_el : tkT 32 = 1 ∧ tkT 33 = 2 ∧ tkT 34 = 3 := by decide +kernel
theorem gS_ln (hg : gSame G x h u σ τ) (hx : x.1 = 32 ∨ x.1 = 33 ∨ x.1 = 34) {s : Nat → Bool} (hs : sLe s (u (12 + h - tkT x.1)).2.2.1) : pLn τ s = pLn σ s := by
  unfold pLn
  have ht : tkX (zBl G) x = tkT x.1 := (tkX_n (by omega)).1
  refine fJ_cg 54 (fun m hm hq => ?_)
  exact (hg.2.1 hx m hm (by rw [ht]; exact hs m hq)).2
theorem gS_ix {dn up : Int → Int} (hg : gSame G x h u σ τ) (hx : x.1 = 33 ∨ x.1 = 34) {v : jQ} (hv : pDr u (12 + h - tkT x.1) = some v) (c : Nat) : pIx dn up τ v (12 + h - tkT x.1) c = pIx dn up σ v (12 + h - tkT x.1) c ∧ pIr τ v (12 + h - tkT x.1) c = pIr σ v (12 + h - tkT x.1) c := by
  have e := gS_ln hg (by omega) (pDr_sub hv (12 + h - tkT x.1))
  unfold pIx pIr
  rw [e]
  exact ⟨rfl, rfl⟩
theorem gS_33 (hg : gSame G x h u σ τ) (hx : x.1 = 33) {v : jQ} {dn up : Int → Int} (hv : pDr u (12 + h - 2) = some v) (c : Nat) : pIx dn up τ v (12 + h - 2) c = pIx dn up σ v (12 + h - 2) c ∧ pIr τ v (12 + h - 2) c = pIr σ v (12 + h - 2) c := by
  have e : tkT x.1 = 2 := by rw [hx]; exact tk_el.2.1
  have := gS_ix (dn := dn) (up := up) hg (Or.inl hx) (v := v) (by rw [e]; exact hv) c
  rw [e] at this
  exact this
theorem gS_34 (hg : gSame G x h u σ τ) (hx : x.1 = 34) {v : jQ} {dn up : Int → Int} (hv : pDr u (12 + h - 3) = some v) (c : Nat) : pIx dn up τ v (12 + h - 3) c = pIx dn up σ v (12 + h - 3) c ∧ pIr τ v (12 + h - 3) c = pIr σ v (12 + h - 3) c := by
  have e : tkT x.1 = 3 := by rw [hx]; exact tk_el.2.2
  have := gS_ix (dn := dn) (up := up) hg (Or.inr hx) (v := v) (by rw [e]; exact hv) c
  rw [e] at this
  exact this
theorem gS_en (hg : gSame G x h u σ τ) (hx : x.1 = 39 ∨ x.1 = 40) : exB (fun b => pMt (zUs G) (zBl G) (zZ G) x u (12 + h - tkX (zBl G) x) b && τ.2.1 b) 48 = exB (fun b => pMt (zUs G) (zBl G) (zZ G) x u (12 + h - tkX (zBl G) x) b && σ.2.1 b) 48 := by
  refine exB_cg 48 (fun b hb => ?_)
  cases hm : pMt (zUs G) (zBl G) (zZ G) x u (12 + h - tkX (zBl G) x) b with
  | false => rfl
  | true => rw [(hg.2.2 hx b hb hm).2.1]
theorem gS_th (hg : gSame G x h u σ τ) (hx : x.1 = 39 ∨ x.1 = 40) (s : Nat) : exB (fun b => pMt (zUs G) (zBl G) (zZ G) x u (12 + h - tkX (zBl G) x) b && τ.2.2 b s) 48 = exB (fun b => pMt (zUs G) (zBl G) (zZ G) x u (12 + h - tkX (zBl G) x) b && σ.2.2 b s) 48 := by
  refine exB_cg 48 (fun b hb => ?_)
  cases hm : pMt (zUs G) (zBl G) (zZ G) x u (12 + h - tkX (zBl G) x) b with
  | false => rfl
  | true => rw [(hg.2.2 hx b hb hm).2.2]
theorem gS_rt (hg : gSame G x h u σ τ) (hx : x.1 = 39 ∨ x.1 = 40) : pRt τ (pMt (zUs G) (zBl G) (zZ G) x u (12 + h - tkX (zBl G) x)) = pRt σ (pMt (zUs G) (zBl G) (zZ G) x u (12 + h - tkX (zBl G) x)) := by
  unfold pRt
  refine fJ_cg 48 (fun b hb hm => ?_)
  obtain ⟨a1, a2, a3⟩ := hg.2.2 hx b hb hm
  rw [a1, a2]
theorem pGo_cg (hg : gSame G x h u σ τ) : pGo G τ x h u = pGo G σ x h u := by
  unfold pGo
  refine ite_cg (fun _ => rfl) (fun _ => ?_)
  refine ite_cg (fun _ => rfl) (fun _ => ?_)
  refine ite_cg (fun _ => rfl) (fun _ => ?_)
  refine ite_cg (fun _ => rfl) (fun _ => ?_)
  refine ite_cg (fun _ => rfl) (fun _ => ?_)
  refine ite_cg (fun _ => rfl) (fun _ => ?_)
  refine ite_cg (fun _ => rfl) (fun _ => ?_)
  refine ite_cg (fun _ => rfl) (fun _ => ?_)
  refine ite_cg (fun _ => rfl) (fun _ => ?_)
  refine ite_cg (fun _ => rfl) (fun _ => ?_)
  refine ite_cg (fun _ => rfl) (fun _ => ?_)
  refine ite_cg (fun _ => rfl) (fun _ => ?_)
  refine ite_cg (fun c => ?_) (fun _ => ?_)
  · refine oB_cg (fun v hv => ?_)
    have e : tkT x.1 = 1 := by rw [c]; exact tk_el.1
    rw [gS_ln hg (Or.inl c) (by rw [e]; exact sLe_refl _)]
  refine ite_cg (fun c => ?_) (fun _ => ?_)
  · refine oB_cg (fun v hv => ?_)
    rw [(gS_33 hg c hv _).1]
    refine oB_cg (fun v' hv' => ?_)
    have e : tkX (zBl G) x = 2 := by rw [(tkX_n (by omega)).1, c]; exact tk_el.2.1
    rw [fJ_cg (f := fun s => τ.1 (2592 + s)) (g := fun s => σ.1 (2592 + s)) 54 (fun m hm hq => (hg.2.1 (by omega) m hm (by rw [e]; exact hq)).1)]
  refine ite_cg (fun c => ?_) (fun _ => ?_)
  · refine oB_cg (fun v hv => ?_)
    rw [(gS_34 hg c hv _).1]
  refine ite_cg (fun c => ?_) (fun _ => ?_)
  · refine oB_cg (fun v hv => ?_)
    rw [fJ_cg (f := fun s => τ.1 (s * 48 + x.2.1.toNat)) (g := fun s => σ.1 (s * 48 + x.2.1.toNat)) 54 (fun m hm hq => hg.1 c m hm)]
  refine ite_cg (fun _ => rfl) (fun _ => ?_)
  refine ite_cg (fun _ => rfl) (fun _ => ?_)
  refine ite_cg (fun _ => rfl) (fun _ => ?_)
  refine ite_cg (fun c => ?_) (fun _ => rfl)
  refine oB_cg (fun v hv => ?_)
  rw [gS_en hg c, gS_rt hg c]
theorem pCo_cg (hg : gSame G x h u σ τ) (k : Nat) : pCo G τ x h u k = pCo G σ x h u k := by
  unfold pCo
  refine ite_cg (fun _ => rfl) (fun _ => ?_)
  refine ite_cg (fun _ => rfl) (fun _ => ?_)
  refine ite_cg (fun c => ?_) (fun _ => rfl)
  refine oB_cg (fun v hv => ?_)
  rw [(gS_34 hg c hv _).1]
theorem pRz_cg (hg : gSame G x h u σ τ) (e : Nat) : pRz G τ x h u e = pRz G σ x h u e := by
  unfold pRz
  refine ite_cg (fun _ => rfl) (fun _ => ?_)
  refine ite_cg (fun _ => ?_) (fun _ => ?_)
  · refine ite_cg (fun c => ?_) (fun _ => ite_cg (fun c => ?_) (fun _ => rfl))
    · cases hv : pDr u (12 + h - 2) with
      | none => rfl
      | some v => exact (gS_33 (dn := zDn G) (up := zUp G) hg c hv _).2
    · cases hv : pDr u (12 + h - 3) with
      | none => rfl
      | some v => exact (gS_34 (dn := zDn G) (up := zUp G) hg c hv _).2
  refine ite_cg (fun _ => rfl) (fun _ => ?_)
  refine ite_cg (fun _ => rfl) (fun _ => ?_)
  refine ite_cg (fun _ => rfl) (fun _ => ?_)
  refine ite_cg (fun _ => ?_) (fun _ => rfl)
  refine ite_cg (fun c => ?_) (fun _ => rfl)
  cases hv : pDr u (12 + h - 3) with
  | none => rfl
  | some v =>
    dsimp only
    rw [(gS_34 (dn := zDn G) (up := zUp G) hg c hv _).1]
theorem pTh_cg (hg : gSame G x h u σ τ) : pTh G τ x h u = pTh G σ x h u := by
  funext s
  unfold pTh
  refine ite_cg (fun _ => rfl) (fun _ => ?_)
  refine ite_cg (fun c => ?_) (fun _ => ite_cg (fun c => ?_) (fun _ => rfl))
  · exact gS_th hg (Or.inl c) s
  · rw [gS_th hg (Or.inr c) s]
theorem pLs_cg (hg : gSame G x h u σ τ) : pLs G τ x h u = pLs G σ x h u := by
  funext s
  unfold pLs
  rw [pTh_cg hg, pRz_cg hg]
/-- which errors are found, and whether it goes on -/
def pFd (G : jZ) (σ : jG) (x : jC) (h : Nat) (u : jQ) (e : Nat) : Bool :=
  if e < 6 then pRz G σ x h u e
  else if e = 6 then decide (x.1 = 41) && sEx (sAnd (u (12 + h - 1)).2.2.1 sAl)
  else if e = 7 then decide (x.1 = 39 ∨ x.1 = 40) && (decide (x.1 = 39) || (pDr u (12 + h - tkX (zBl G) x)).isSome) && exB (fun b => pMt (zUs G) (zBl G) (zZ G) x u (12 + h - tkX (zBl G) x) b && sEx (σ.2.2 b)) 48
  else decide (e = 8)
/-- whether it goes on -/
def pMv (G : jZ) (σ : jG) (x : jC) (h : Nat) (u : jQ) : Bool := if 20 ≤ x.1 ∧ x.1 ≤ 29 then (pWy (zDn G) (zUp G) x.1 u h).isSome || (pWy (zDn G) (zUp G) (ctr x.1) u h).isSome else (pGo G σ x h u).isSome
theorem pFd_cg (hg : gSame G x h u σ τ) (e : Nat) : pFd G τ x h u e = pFd G σ x h u e := by
  unfold pFd
  refine ite_cg (fun _ => pRz_cg hg e) (fun _ => ?_)
  refine ite_cg (fun _ => rfl) (fun _ => ?_)
  refine ite_cg (fun _ => ?_) (fun _ => rfl)
  by_cases c : x.1 = 39 ∨ x.1 = 40
  · rw [exB_cg (f := fun b => pMt (zUs G) (zBl G) (zZ G) x u (12 + h - tkX (zBl G) x) b && sEx (τ.2.2 b)) (g := fun b => pMt (zUs G) (zBl G) (zZ G) x u (12 + h - tkX (zBl G) x) b && sEx (σ.2.2 b)) 48 (fun b hb => by
      cases hm : pMt (zUs G) (zBl G) (zZ G) x u (12 + h - tkX (zBl G) x) b with
      | false => rfl
      | true => rw [(hg.2.2 c b hb hm).2.2])]
  · rw [decide_eq_false c]; rfl
theorem pMv_cg (hg : gSame G x h u σ τ) : pMv G τ x h u = pMv G σ x h u := by
  unfold pMv
  rw [pGo_cg hg]
theorem pEd_cg {i : Nat} (hg : gSame G x (zH G i) u σ τ) {lc : Nat → Nat} {j : Nat} {w : jQ} : pEd G τ i x u lc j w ↔ pEd G σ i x u lc j w := by
  unfold pEd
  rw [pGo_cg hg, pLs_cg hg]
theorem pEs_cg {i : Nat} (hg : gSame G x (zH G i) u σ τ) : pEs G τ i x (zH G i) u = pEs G σ i x (zH G i) u := by
  unfold pEs
  rw [pLs_cg hg]
end PLO
/-- the bodies that a call may mean, whatever is known -/
def pSu (us : List Int) (bl : List jB) (x : jC) (b : Nat) : Bool := if x.1 = 39 then decide (b = x.2.1.toNat) else match bl[x.2.1.toNat]? with
  | none => false
  | some y => exB (fun c => decide (rnS us bl c y = (b : Int))) us.length
theorem pMt_su {us : List Int} {bl : List jB} {z : jL} {x : jC} {u : jQ} {low b : Nat} (hs : x.1 ≠ 39 → ∀ s, s < 54 → (u low).2.2.1 s = true → cl (sTp z s) < us.length) (hm : pMt us bl z x u low b = true) : pSu us bl x b = true := by
  unfold pMt at hm
  unfold pSu
  by_cases c : x.1 = 39
  · rw [if_pos c] at hm ⊢
    exact hm
  · rw [if_neg c] at hm ⊢
    cases hq : bl[x.2.1.toNat]? with
    | none => rw [hq] at hm; cases hm
    | some y =>
      rw [hq] at hm
      obtain ⟨s, s1, s2⟩ := (exB_iff 54).mp hm
      rw [Bool.and_eq_true] at s2
      exact (exB_iff us.length).mpr ⟨cl (sTp z s), hs c s s1 s2.1, s2.2⟩
/-- what has not changed is the same -/
theorem gSame_of {G : jZ} {σ τ : jG} {x : jC} {h : Nat} {u : jQ} {C C' : jH} {th : Nat → Int} {n : Nat} (hc : gCg th n σ τ C C') (hf : x.1 = 35 → x.2.1.toNat < 48) (hs : x.1 = 40 → ∀ s, s < 54 → (u (12 + h - tkX (zBl G) x)).2.2.1 s = true → cl (sTp (zZ G) s) < (zUs G).length) (hn : uCh (zBl G) C' x h u (pSu (zUs G) (zBl G) x) = false) : gSame G x h u σ τ := by
  obtain ⟨-, c1, c2, c3, -⟩ := hc
  unfold uCh at hn
  refine ⟨fun q s hs' => ?_, fun q s hs' hu => ?_, fun q b hb hm => ?_⟩
  · rw [if_pos q] at hn
    by_cases e : τ.1 (s * 48 + x.2.1.toNat) = σ.1 (s * 48 + x.2.1.toNat)
    · exact e
    · rw [c1 s _ (hf q) hs' e] at hn; cases hn
  · rw [if_neg (by omega), if_pos q] at hn
    have hC : C'.2.1 s = false := by
      cases hq : C'.2.1 s with
      | false => rfl
      | true =>
        have : sEx (sAnd C'.2.1 (u (12 + h - tkX (zBl G) x)).2.2.1) = true := sEx_iff.mpr ⟨s, by omega, by unfold sAnd; rw [hq, hu]; rfl⟩
        rw [this] at hn; cases hn
    constructor
    · by_cases e : τ.1 (2592 + s) = σ.1 (2592 + s)
      · exact e
      · rw [c2 s hs' (Or.inl e)] at hC; cases hC
    · by_cases e : τ.1 (2646 + s) = σ.1 (2646 + s)
      · exact e
      · rw [c2 s hs' (Or.inr e)] at hC; cases hC
  · rw [if_neg (by omega), if_neg (by omega), if_pos q] at hn
    have hsu : pSu (zUs G) (zBl G) x b = true := pMt_su (fun q' => hs (by omega)) hm
    have hC : C'.2.2 b = false := by
      cases hq : C'.2.2 b with
      | false => rfl
      | true =>
        have : sEx (sAnd C'.2.2 (pSu (zUs G) (zBl G) x)) = true := sEx_iff.mpr ⟨b, by omega, by unfold sAnd; rw [hq, hsu]; rfl⟩
        rw [this] at hn; cases hn
    refine ⟨?_, ?_, ?_⟩
    · by_cases e : τ.1 (2700 + b) = σ.1 (2700 + b)
      · exact e
      · rw [c3 b hb (Or.inl e)] at hC; cases hC
    · by_cases e : τ.2.1 b = σ.2.1 b
      · exact e
      · rw [c3 b hb (Or.inr (Or.inl e))] at hC; cases hC
    · by_cases e : τ.2.2 b = σ.2.2 b
      · exact e
      · rw [c3 b hb (Or.inr (Or.inr e))] at hC; cases hC
