/-! The class uses elements. -/
section CUE
variable {F : Int → Prop} {S : nk_S} {Q : Nat} {p : jP} {H lc : Nat → Nat} {us : List Int} {fl : List (List Int × Nat × Int)} {bl : List jB} {z : jL} {t : Nat → Int} {u : jQ} {i : Nat} {x : jC} {G : jZ} {σ : jG} {C : jH} {l h : Nat} {th : Nat → Int} {n : Nat}
/-- the error of an index -/
def pI1 (σ : jG) (u : jQ) (r c : Nat) : Bool := match pDr u r with
  | none => false
  | some v => pIr σ v r c
/-- the row behind an index -/
def pI2 (dn up : Int → Int) (σ : jG) (u : jQ) (r c : Nat) : Option jQ := oB (pDr u r) fun v => pIx dn up σ v r c
theorem qNr_12 {v v' : jQ} (hc : qCp l v) {s : Nat} {r : jR} {f : Nat → Bool} (h : qNr v s r f = some v') : ∀ k, 12 ≤ k → v' k = v k := (qNr_at hc h).1
theorem c_elP (hQ : Q = 13 ∨ Q = 49) (hT : thG F (zDn G) (zUp G)) (hF : F = fun y => th7 y ∨ ∃ x ∈ p.2.2.2.2.1.2.2.2, nbr x y) (hv : cPv S Q p H lc) (hz : oJL p.2.2.2.2.1) (hg : gOk F us fl bl z σ) (hz48 : z.2.1.length ≤ 48) (hzp : z = p.2.2.2.2.1) (hm : cGm S fl bl z σ C) {r0 s0 : Nat → Bool} (k : cRs S r0 s0) (hr : cRw l h S u) (hok : vOk F us z l t u) {r : Nat} (hr12 : 12 ≤ r) (h1 : rel l h r ∧ r < 20) (h2 : rel l h (r + 1) ∧ r + 1 < 20) (kr : (u r).1 = 2) (kc : (u (r + 1)).1 = 1) (hw : ∀ s, z.2.1.length ≤ s → s < 54 → (u r).2.2.1 s = false) (hln : pDr u r ≠ none → pLn σ (u r).2.2.1 ≠ none) (op m : Int) (htop : ja_X7_fromTop 93 m S = some ((r : Int), S)) : ∃ S1, eFr S S1 ∧ cRs S1 (nlR (pI1 σ u r (r + 1)) 1 (nlR ((u r).2.2.1 62) 0 r0)) (nlR (pI1 σ u r (r + 1)) 49 (nlR ((u r).2.2.1 62) 48 s0)) ∧ (pI2 (zDn G) (zUp G) σ u r (r + 1) = none → ja_X4_usesElement_b15 92 op 93 m S = some (0, S1)) ∧ ∀ v, pI2 (zDn G) (zUp G) σ u r (r + 1) = some v → ja_X4_usesElement_b15 92 op 93 m S = (if op = 33 then nk_bd (ja_X4_takesElement 92 (r : Int) S1) fun r15 S16 => if r15 = 0 ∨ r15 = 1 then some (r15, S16) else none else nk_bd (ja_X4_putsElement 92 (r : Int) S1) fun r11 S12 => if r11 = 0 ∨ r11 = 1 then some (r11, S12) else none) ∧ cRw l h S1 v ∧ vOk F us z l t v ∧ (∀ k, 12 ≤ k → v k = u k) := by
  obtain ⟨S1, s1, s2, s3, s4, s5⟩ := c_deref k hr hok h1 kr
  have e15 : ja_X4_usesElement_b15 92 op 93 m S = nk_bd (ja_X4_dereference 92 (r : Int) S) fun r6 S7 => if r6 = 0 then some (0, S7) else if 0 ≤ (r : Int) ∧ (r : Int) < 20 then nk_bd (ja_X4_lengthsOf 92 (S7.1 98 r) S7) fun r12 S13 => nk_bd (ja_X4_staysInside 92 (r : Int) ((r + 1 : Nat) : Int) r12 S13) fun r15 S16 => if r15 = 0 then nk_bd (ja_X4_raise 92 1 S16) fun r18 S19 => ja_X4_usesElement_b64 92 op (r : Int) ((r + 1 : Nat) : Int) r12 S19 else ja_X4_usesElement_b64 92 op (r : Int) ((r + 1 : Nat) : Int) r12 S16 else none := by
    unfold ja_X4_usesElement_b15
    rw [htop, bd_some, w_nat1 (by omega), lt_eq]
    rfl
  rw [e15, s1, bd_some]
  cases hd : pDr u r with
  | none =>
    have e1 : pI1 σ u r (r + 1) = false := by unfold pI1; rw [hd]
    have e2 : pI2 (zDn G) (zUp G) σ u r (r + 1) = none := by unfold pI2; rw [hd]; rfl
    rw [e1, e2, if_pos (show bi (none : Option jQ).isSome = 0 from rfl)]
    refine ⟨S1, s2, ?_, fun _ => rfl, fun v q => by cases q⟩
    unfold nlR at s4 ⊢
    rw [if_neg (show ¬ false = true by decide), if_neg (show ¬ false = true by decide)]
    exact s4
  | some v =>
    have rv := s5 v hd
    obtain ⟨v1, v2⟩ := pDr_v hok hr12 kr hd
    have stv := rv.2.2 _ h1.1
    rw [v2 r hr12] at stv
    have hlen := c_lenOf hQ hT (cPv_e hQ s2 hv) hz hg hz48 hzp (cGm_e s2 hm) (stv.2.2.2 kr) hw
    obtain ⟨lw, hlw⟩ : ∃ lw, pLn σ (u r).2.2.1 = some lw := by
      cases q : pLn σ (u r).2.2.1 with
      | none => exact absurd q (hln (by rw [hd]; exact fun q => by cases q))
      | some lw => exact ⟨lw, rfl⟩
    have vw := vl1_n (fJ_v (Or.inl rfl) 54 (fun s' v' a _ q' => by have := (hg.1 _ _ q').2; rw [zT_l a] at this; exact this) lw hlw)
    have il := rOk_iR hT vw.2
    rw [hlw] at hlen
    have hlen' : ja_X4_lengthsOf 92 (S1.1 98 r) S1 = some (pk lw.2.1, S1) := hlen
    have kv1 : (v (r + 1)).1 = 1 := by rw [v2 _ (by omega)]; exact kc
    have hin := c_inside hT rv v1.1 h1 h2 kv1 il
    have e1 : pI1 σ u r (r + 1) = (decide ((v (r + 1)).2.1.1 < 0) || !pUn v r (r + 1) lw.2.1) := by
      unfold pI1 pIr
      rw [hd]
      dsimp only
      rw [v2 r hr12, hlw]
    rw [if_neg (bi_some rfl), if_pos (in_i (N := 20) (by omega)), hlen', bd_some, hin, bd_some]
    have oc := (wOk_1 (v1.1 (r + 1)) kv1).1
    have ic := rOk_iR hT oc
    -- behind the error
    have hb64 : ∀ T, eFr S T → cRw l h T v → cRs T (nlR (pI1 σ u r (r + 1)) 1 (nlR ((u r).2.2.1 62) 0 r0)) (nlR (pI1 σ u r (r + 1)) 49 (nlR ((u r).2.2.1 62) 48 s0)) → ∃ S1', eFr S S1' ∧ cRs S1' (nlR (pI1 σ u r (r + 1)) 1 (nlR ((u r).2.2.1 62) 0 r0)) (nlR (pI1 σ u r (r + 1)) 49 (nlR ((u r).2.2.1 62) 48 s0)) ∧ (pI2 (zDn G) (zUp G) σ u r (r + 1) = none → ja_X4_usesElement_b64 92 op (r : Int) ((r + 1 : Nat) : Int) (pk lw.2.1) T = some (0, S1')) ∧ ∀ v', pI2 (zDn G) (zUp G) σ u r (r + 1) = some v' → ja_X4_usesElement_b64 92 op (r : Int) ((r + 1 : Nat) : Int) (pk lw.2.1) T = (if op = 33 then nk_bd (ja_X4_takesElement 92 (r : Int) S1') fun r15 S16 => if r15 = 0 ∨ r15 = 1 then some (r15, S16) else none else nk_bd (ja_X4_putsElement 92 (r : Int) S1') fun r11 S12 => if r11 = 0 ∨ r11 = 1 then some (r11, S12) else none) ∧ cRw l h S1' v' ∧ vOk F us z l t v' ∧ (∀ k, 12 ≤ k → v' k = u k) := by
      intro T hT' hrT hkT
      have vT := cPv_e hQ hT' hv
      obtain ⟨n', n1', n2'⟩ := cPv_t vT hz
      rw [← hF] at n2'
      have hR : Q + 23 = 36 ∨ Q + 23 = 72 := by omega
      have stc := hrT.2.2 _ h2.1
      have strr := hrT.2.2 _ h1.1
      obtain ⟨o, hoo⟩ : ∃ o, o = kCut (zDn G) (zUp G) (v (r + 1)).2.1 0 (lw.2.1.2 - 1) := ⟨_, rfl⟩
      have okc : ∀ q, o = some q → rOk F q := fun q hq => kCut_ok hT (hoo ▸ hq)
      have epi : pI2 (zDn G) (zUp G) σ u r (r + 1) = oB o fun q => qNr v (r + 1) q (oOn (u r).2.2.2.1 12) := by
        unfold pI2 pIx
        rw [hd]
        show (match pLn σ (v r).2.2.1 with
          | none => none
          | some l => match kCut (zDn G) (zUp G) (v (r + 1)).2.1 0 (l.2.1.2 - 1) with
            | none => none
            | some q => qNr v (r + 1) q (oOn (v r).2.2.2.1 12)) = _
        rw [v2 r hr12, hlw]
        dsimp only
        rw [← hoo]
        cases o <;> rfl
      have hW : nk_W (lw.2.1.2 - 1) = lw.2.1.2 - 1 := W_id (by have := il.2; unfold iR at this; unfold lR; omega)
      obtain ⟨g, hgb, hgv⟩ : ∃ g, ja_X4_usesElement_b64 92 op (r : Int) ((r + 1 : Nat) : Int) (pk lw.2.1) T = ja_X4_usesElement_b121 92 op (r : Int) ((r + 1 : Nat) : Int) (pk lw.2.1) (kPk o) g T ∧ cV g (oOn (u r).2.2.2.1 12) := by
        unfold ja_X4_usesElement_b64
        rw [if_pos (in_i (N := 20) (by omega)), hi_e il, bd_some, hW]
        clear hW
        rw [vT.2.1, jc_92_2, jc_93_4, jc_93_5, Int.toNat_natCast, stc.2.2.1 kv1, c_cut hR hT n2' n1' ic, bd_some, ← hoo, if_pos (in_i (N := 20) (by omega)), Int.toNat_natCast, c_copy (v1.1 r).1 strr.1, bd_some, v2 r hr12]
        cases hc : (u r).2.2.2.1 with
        | none =>
          refine ⟨0, ?_, cV_0⟩
          rw [show oN none = 0 from rfl, if_neg (by decide)]
        | some c =>
          have hc12 := (hok.1 _).1 c hc
          have hp : 0 ≤ (c : Int) := by omega
          have h64 : 12 + c < 64 := by omega
          have e : ((oN (some c) : Nat) : Int) - 1 = (c : Int) := by show ((c + 1 : Nat) : Int) - 1 = _; omega
          have ew : nk_w (12 + (c : Int)) = ((12 + c : Nat) : Int) := by rw [nk_w_id (by omega) (by omega)]; omega
          refine ⟨nk_lshl 1 ((12 + c : Nat) : Int), ?_, cV_one h64⟩
          rw [e, if_pos hp, ew]
      clear hW
      have okl : ∀ q, some lw.2.1 = some q → iR2 q ∧ q.1 ≤ q.2 := c_kOk hT (fun q hq => by cases hq; exact vw.2)
      have enl : ja_X5_isNothing (pk lw.2.1) T = some (bi false, T) := kPk_n okl T
      rw [hgb, epi]
      unfold ja_X4_usesElement_b121
      rw [enl, bd_some, if_pos (show bi false = 0 from rfl), kPk_n (c_kOk hT okc), bd_some]
      cases o with
      | none =>
        rw [if_neg (show ¬ bi (none : Option jR).isNone = 0 by decide)]
        exact ⟨T, hT', hkT, fun _ => rfl, fun v' q => by cases q⟩
      | some q =>
        rw [if_pos (show bi (some q).isNone = 0 from rfl), jc_92_2]
        have oq := okc q rfl
        have hf48 : ∀ j, oOn (u r).2.2.2.1 12 j = true → j < 48 := by
          intro j hj
          cases hc : (u r).2.2.2.1 with
          | none => rw [hc] at hj; cases hj
          | some c =>
            rw [hc] at hj
            have hc12 := (hok.1 _).1 c hc
            have hj : decide (j = 12 + c) = true := hj
            have := of_decide_eq_true hj
            omega
        obtain ⟨S2, q1, q2, q3⟩ := c_narrow hT hrT v1.1 v1.2.1 h2.1 kv1 h2.2 (rOk_iR hT oq) hgv hf48 (fun k' q' hq' hk' => ⟨rOk_iR hT (kCom_ok (wOk_1 (v1.1 k') hk').1 oq hq').1, (kCom_ok (wOk_1 (v1.1 k') hk').1 oq hq').1.2.2⟩)
        have q1' : ja_X7_narrow 93 ((r + 1 : Nat) : Int) (kPk (some q)) g T = _ := q1
        rw [q1', bd_some]
        show ∃ S1', _ ∧ _ ∧ (qNr v (r + 1) q (oOn (u r).2.2.2.1 12) = none → _) ∧ ∀ v', qNr v (r + 1) q (oOn (u r).2.2.2.1 12) = some v' → _
        cases hn : qNr v (r + 1) q (oOn (u r).2.2.2.1 12) with
        | none =>
          rw [if_pos (show bi (none : Option jQ).isSome = 0 from rfl)]
          exact ⟨S2, eFr_trans hT' (eFr_w q2), cRs_w q2 hkT, fun _ => rfl, fun v' q => by cases q⟩
        | some v' =>
          rw [if_neg (bi_some rfl)]
          refine ⟨S2, eFr_trans hT' (eFr_w q2), cRs_w q2 hkT, (fun q => by cases q), fun v'' q'' => ?_⟩
          cases q''
          exact ⟨rfl, q3 v' hn, qNr_ok v1 kv1 oq hf48 hn, fun k' hk' => by rw [qNr_12 v1.2.1 hn k' hk']; exact v2 k' hk'⟩
    cases hi1 : pI1 σ u r (r + 1) with
    | true =>
      rw [← e1, hi1]
      rw [if_pos (show bi (!true) = 0 from rfl)]
      obtain ⟨T, t1, t2, t3, t4⟩ := c_raise s4 rv (e := 1) (by decide)
      have t1' : ja_X4_raise 92 1 S1 = some (0, T) := t1
      rw [t1', bd_some]
      rw [hi1] at hb64
      exact hb64 T (eFr_trans s2 t2) t4 t3
    | false =>
      rw [← e1, hi1]
      rw [if_neg (show ¬ bi (!false) = 0 by decide)]
      rw [hi1] at hb64
      exact hb64 S1 s2 rv s4
end CUE
