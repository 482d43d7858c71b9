/-! The reference's look: what was found. -/
section RFD
variable {G : jZ} {σ : jG} {x : jC} {h i : Nat} {u : jQ} {P : Nat} {S : nk_S}
/-- the bits beside the errors -/
def lkB (G : jZ) (σ : jG) (x : jC) (h : Nat) (u : jQ) : Nat → Bool := fun e => decide (e = 8) || ((decide (e = 6) && (decide (x.1 = 41) && sEx (pTh G σ x h u))) || (decide (e = 7) && (decide (x.1 = 39 ∨ x.1 = 40) && sEx (pTh G σ x h u))))
theorem sEx_exB {f : Nat → Bool} {g : Nat → Nat → Bool} {m : Nat} : sEx (fun s => exB (fun b => f b && g b s) m) = exB (fun b => f b && sEx (g b)) m := by
  apply Bool.eq_iff_iff.mpr
  rw [sEx_iff, exB_iff]
  constructor
  · rintro ⟨j, j1, j2⟩
    obtain ⟨b, b1, b2⟩ := (exB_iff m).mp j2
    rw [Bool.and_eq_true] at b2
    exact ⟨b, b1, by rw [Bool.and_eq_true]; exact ⟨b2.1, sEx_iff.mpr ⟨j, j1, b2.2⟩⟩⟩
  · rintro ⟨b, b1, b2⟩
    rw [Bool.and_eq_true] at b2
    obtain ⟨j, j1, j2⟩ := sEx_iff.mp b2.2
    exact ⟨j, j1, (exB_iff m).mpr ⟨b, b1, by rw [Bool.and_eq_true]; exact ⟨b2.1, j2⟩⟩⟩
theorem sEx_no : sEx noS = false := nf_t (fun q => by obtain ⟨j, -, j2⟩ := sEx_iff.mp q; cases j2)
theorem lkB_fd (e : Nat) : (rzS G σ x h u e || lkB G σ x h u e) = pFd G σ x h u e := by
  unfold rzS lkB pFd
  by_cases c : e < 6
  · rw [if_pos c, decide_eq_true c, decide_eq_false (show ¬ e = 8 by omega), decide_eq_false (show ¬ e = 6 by omega), decide_eq_false (show ¬ e = 7 by omega)]
    simp
  rw [if_neg c, decide_eq_false c, Bool.false_and, Bool.false_or]
  by_cases c6 : e = 6
  · rw [if_pos c6]
    subst c6
    by_cases q : x.1 = 41
    · have e1 : pTh G σ x h u = sAnd (u (12 + h - 1)).2.2.1 sAl := by funext s; unfold pTh; rw [if_pos q]
      rw [e1]
      simp
    · rw [decide_eq_false q]; simp
  rw [if_neg c6]
  by_cases c7 : e = 7
  · rw [if_pos c7]
    subst c7
    by_cases q : x.1 = 39
    · have e1 : pTh G σ x h u = fun s => exB (fun b => pMt (zUs G) (zBl G) (zZ G) x u (12 + h - tkX (zBl G) x) b && σ.2.2 b s) 48 := by
        funext s; unfold pTh; rw [if_neg (by omega), if_pos q]
      rw [e1, sEx_exB, decide_eq_true q, decide_eq_true (show x.1 = 39 ∨ x.1 = 40 from Or.inl q)]
      simp
    · by_cases q4 : x.1 = 40
      · have e1 : pTh G σ x h u = fun s => (pDr u (12 + h - tkX (zBl G) x)).isSome && exB (fun b => pMt (zUs G) (zBl G) (zZ G) x u (12 + h - tkX (zBl G) x) b && σ.2.2 b s) 48 := by
          funext s; unfold pTh; rw [if_neg (by omega), if_neg q, if_pos q4]
        rw [e1, decide_eq_false q, decide_eq_true (show x.1 = 39 ∨ x.1 = 40 from Or.inr q4)]
        cases hp : (pDr u (12 + h - tkX (zBl G) x)).isSome with
        | false =>
          have : sEx (fun s => (false && exB (fun b => pMt (zUs G) (zBl G) (zZ G) x u (12 + h - tkX (zBl G) x) b && σ.2.2 b s) 48)) = false := sEx_no
          rw [this]; simp
        | true =>
          have : (fun s => (true && exB (fun b => pMt (zUs G) (zBl G) (zZ G) x u (12 + h - tkX (zBl G) x) b && σ.2.2 b s) 48)) = fun s => exB (fun b => pMt (zUs G) (zBl G) (zZ G) x u (12 + h - tkX (zBl G) x) b && σ.2.2 b s) 48 := by funext s; rw [Bool.true_and]
          rw [this, sEx_exB]; simp
      · rw [decide_eq_false (show ¬ (x.1 = 39 ∨ x.1 = 40) by omega)]; simp
  rw [if_neg c7, decide_eq_false c6, decide_eq_false c7]
  simp
theorem cI_8 : cI 256 (onS 8) ∧ cI 64 (onS 6) ∧ cI 128 (onS 7) := ⟨cI_on (e := 8) (by decide), cI_on (e := 6) (by decide), cI_on (e := 7) (by decide)⟩
/-- what is told beside the errors -/
theorem r_b153 {i : Int} (hT : cV (S.1 121 40) (pTh G σ x h u)) (h54 : ∀ s, pTh G σ x h u s = true → s < 63) : ∃ l4, ja_X13_look_b153 121 P i (x.1 : Int) 256 S = ja_X13_look_L207 nk_big 121 P i l4 0 S ∧ cI l4 (lkB G σ x h u) := by
  have zz := cV_ex hT h54
  obtain ⟨k8, k6, k7⟩ := cI_8
  by_cases c41 : x.1 = 41
  · by_cases z0 : S.1 121 40 = 0
    · refine ⟨256, ?_, cI_e k8 (fun e => ?_)⟩
      · unfold ja_X13_look_b153 ja_X13_look_b175
        rw [if_pos (by omega), if_pos z0, if_neg (by omega), if_neg (by omega)]
      · unfold lkB onS
        rw [zz.mp z0]; simp
    · refine ⟨nk_ior 256 64, ?_, cI_e (cI_or k8 k6) (fun e => ?_)⟩
      · unfold ja_X13_look_b153 ja_X13_look_b175
        rw [if_pos (by omega), if_neg z0, lt_eq, if_neg (by omega), if_neg (by omega)]
      · have : sEx (pTh G σ x h u) = true := by
          cases hq : sEx (pTh G σ x h u) with
          | true => rfl
          | false => exact absurd (zz.mpr hq) z0
        unfold lkB sOr onS
        rw [this, decide_eq_true c41, decide_eq_false (show ¬ (x.1 = 39 ∨ x.1 = 40) by omega)]; simp
  · by_cases c39 : x.1 = 39 ∨ x.1 = 40
    · have e1 : ja_X13_look_b153 121 P i (x.1 : Int) 256 S = ja_X13_look_b187 121 P i 256 S := by
        unfold ja_X13_look_b153 ja_X13_look_b175
        rw [if_neg (by omega)]
        rcases c39 with q | q
        · rw [if_pos (by omega)]
        · rw [if_neg (by omega), if_pos (by omega)]
      rw [e1]
      unfold ja_X13_look_b187
      by_cases z0 : S.1 121 40 = 0
      · refine ⟨256, by rw [if_pos z0], cI_e k8 (fun e => ?_)⟩
        unfold lkB onS
        rw [zz.mp z0]; simp
      · refine ⟨nk_ior 256 128, by rw [if_neg z0, lt_eq], cI_e (cI_or k8 k7) (fun e => ?_)⟩
        have : sEx (pTh G σ x h u) = true := by
          cases hq : sEx (pTh G σ x h u) with
          | true => rfl
          | false => exact absurd (zz.mpr hq) z0
        unfold lkB sOr onS
        rw [this, decide_eq_false c41, decide_eq_true c39]; simp
    · refine ⟨256, ?_, cI_e k8 (fun e => ?_)⟩
      · unfold ja_X13_look_b153 ja_X13_look_b175
        rw [if_neg (by omega), if_neg (by omega), if_neg (by omega)]
      · unfold lkB onS
        rw [decide_eq_false c41, decide_eq_false c39]; simp
end RFD
