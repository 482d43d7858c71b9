/-! The class tells types, throws, reads. -/
section CIS
variable {F : Int → Prop} {S : nk_S} {Q : Nat} {p : jP} {H lc : Nat → Nat} {us : List Int} {fl : List (List Int × Nat × Int)} {bl : List jB} {z : jL} {t : Nat → Int} {u : jQ} {i : Nat} {x : jC} {G : jZ} {σ : jG} {C : jH} {l h : Nat}
theorem ll_b93 {h : Nat} (hr : cRw l h S u) (h8 : h < 8) (y n : Bool) (hyn : (y || n) = true) : ∃ S', ja_X4_tellsType_b93 (bi y) (bi n) 93 (if n = true then 0 else 1) (if y = true then 1 else 0) S = some (1, S') ∧ wFr S S' ∧ cRw l (h + 1) S' (qUp u (12 + h) (wR ((if n = true then 0 else 1), (if y = true then 1 else 0)))) := by
  obtain ⟨S', s1, s2, s3⟩ := c_push hr h8 (cSt_R (r := ((if n = true then 0 else 1), (if y = true then 1 else 0))))
  refine ⟨S', ?_, s2, s3⟩
  unfold ja_X4_tellsType_b93 ja_X5_pack
  rw [pk_e (by unfold iR; cases n <;> decide), bd_some, s1, bd_some]
  cases y <;> cases n
  · cases hyn
  · rfl
  · rfl
  · rfl
theorem c_is (hQ : Q = 13 ∨ Q = 49) (hv : cPv S Q p H lc) {r s : Nat → Bool} (k : cRs S r s) (hr : cRw (lc i) (H i) S u) (hok : vOk F us z (lc i) t u) (hi : i < 1024) (ho : x.1 = 38) (k1 : (u (12 + H i - 1)).1 = 2) (h1 : 1 ≤ H i) (hsu : cV (S.1 109 i) (pB (zUs G) (zZ G) x.2.1)) : ∃ S' v, ja_X4_tellsType 92 (i : Int) S = some (1, S') ∧ wFr S S' ∧ pGo G σ x (H i) u = some v ∧ cRw (lc i) (H i) S' v := by
  have hH8 := (hv.2.2.2.2 i).2
  have top := c_top0 hr hH8
  have r1 : rel (lc i) (H i) (12 + H i - 1) ∧ 12 + H i - 1 < 20 := rel_top (n := 0) (by omega) hH8
  have st := hr.2.2 _ r1.1
  have sv := st.2.2.2 k1
  have w63 := w_63 (hok.1 (12 + H i - 1)) k1
  obtain ⟨B, hB⟩ : ∃ B, B = pB (zUs G) (zZ G) x.2.1 := ⟨_, rfl⟩
  rw [← hB] at hsu
  obtain ⟨y, hy⟩ : ∃ y, y = sEx (sAnd (u (12 + H i - 1)).2.2.1 B) := ⟨_, rfl⟩
  obtain ⟨n, hn⟩ : ∃ n, n = sEx (sMi (u (12 + H i - 1)).2.2.1 B) := ⟨_, rfl⟩
  have epg : pGo G σ x (H i) u = some (qUp u (12 + H i - 1) (wR ((if n = true then 0 else 1), (if y = true then 1 else 0)))) := by
    rw [hy, hn, hB]
    unfold pGo
    rw [if_neg (by omega), if_neg (by omega), if_neg (by omega), if_neg (by omega), if_neg (by omega), if_neg (by omega), if_neg (by omega), if_neg (by omega), if_neg (by omega), if_neg (by omega), if_neg (by omega), if_neg (by omega), if_neg (by omega), if_neg (by omega), if_neg (by omega), if_neg (by omega), if_neg (by omega), if_neg (by omega), if_pos ho]
  have hyn : (y || n) = true := by
    obtain ⟨j, hj⟩ := (wOk_2 (hok.1 (12 + H i - 1)) k1).2.1
    rw [Bool.or_eq_true]
    cases hb : B j with
    | true => left; rw [hy]; exact sEx_iff.mpr ⟨j, w63 j hj, by show ((u (12 + H i - 1)).2.2.1 j && B j) = true; rw [hj, hb]; rfl⟩
    | false => right; rw [hn]; exact sEx_iff.mpr ⟨j, w63 j hj, by show ((u (12 + H i - 1)).2.2.1 j && !B j) = true; rw [hj, hb]; rfl⟩
  have ey := cV_ex (cV_and sv hsu) (fun j hj => w63 j (sAnd_l _ _ j hj))
  have en := cV_ex (cV_and sv (cV_not hsu)) (fun j hj => w63 j (sAnd_l _ _ j hj))
  have en' : nk_land (S.1 98 (12 + H i - 1)) (nk_lxor (S.1 109 i) (-1)) = 0 ↔ n = false := by rw [hn]; exact en
  rw [← hy] at ey
  obtain ⟨S1, s1, s2, s3⟩ := c_drop hr (n := 1) h1 hH8
  have s1' : ja_X7_drop 93 1 S = some (0, S1) := s1
  obtain ⟨S2, q1, q2, q3⟩ := ll_b93 s3 (by omega) y n hyn
  rw [show H i - 1 + 1 = H i by omega, show 12 + (H i - 1) = 12 + H i - 1 by omega] at q3
  refine ⟨S2, _, ?_, wFr_trans s2 q2, epg, q3⟩
  have e59 : ja_X4_tellsType_b59 92 (bi y) (bi n) S = some (1, S2) := by
    unfold ja_X4_tellsType_b59
    rw [jc_92_2, s1', bd_some, ← q1]
    unfold ja_X4_tellsType_b83
    cases y <;> cases n <;> rfl
  have e35 : ja_X4_tellsType_b35 92 (i : Int) (S.1 98 (12 + H i - 1)) (bi y) S = some (1, S2) := by
    unfold ja_X4_tellsType_b35
    rw [if_pos (in_i (N := 1024) (by omega)), jc_92_6, Int.toNat_natCast, ← e59]
    cases hq : n with
    | false => rw [if_pos (en'.mpr hq)]; rfl
    | true => rw [if_neg (fun q => by rw [en'.mp q] at hq; cases hq)]; rfl
  unfold ja_X4_tellsType
  rw [jc_92_2, top, bd_some, if_pos (in_i (N := 20) (by omega)), lt_eq, if_pos (in_i (N := 1024) (by omega)), jc_93_4, jc_92_6, Int.toNat_natCast, Int.toNat_natCast, ← e35]
  cases hq : y with
  | false => rw [if_pos (ey.mpr hq)]; rfl
  | true => rw [if_neg (fun q => by rw [ey.mp q] at hq; cases hq)]; rfl
/-- the class throws -/
theorem c_throws (hv : cPv S Q p H lc) {r s : Nat → Bool} (k : cRs S r s) (hr : cRw (lc i) (H i) S u) (hok : vOk F us z (lc i) t u) (k1 : (u (12 + H i - 1)).1 = 2) (h1 : 1 ≤ H i) : ∃ S', ja_X4_throwsSites 92 S = some (0, S') ∧ eFr S S' ∧ cRs S' (nlR (sEx (sAnd (u (12 + H i - 1)).2.2.1 sAl)) 6 (nlR ((u (12 + H i - 1)).2.2.1 62) 0 r)) (sOr (nlR ((u (12 + H i - 1)).2.2.1 62) 48 s) (sAnd (u (12 + H i - 1)).2.2.1 sAl)) := by
  have hH8 := (hv.2.2.2.2 i).2
  have top := c_top0 hr hH8
  have r1 : rel (lc i) (H i) (12 + H i - 1) ∧ 12 + H i - 1 < 20 := rel_top (n := 0) (by omega) hH8
  have st := hr.2.2 _ r1.1
  have sv := st.2.2.2 k1
  have w63 := w_63 (hok.1 (12 + H i - 1)) k1
  have hm : cV 18014398509481983 sAl := ⟨by unfold lR; decide, lk_al⟩
  have hand := cV_and sv hm
  have hz' := cV_ex hand (fun j hj => w63 j (sAnd_l _ _ j hj))
  have h64 : cI 64 (onS 6) := cI_on (e := 6) (by decide)
  have hb32 : ∀ (T : nk_S) (r' s' : Nat → Bool), eFr S T → cRs T r' s' → ∃ S', ja_X4_throwsSites_b32 92 (S.1 98 (12 + H i - 1)) T = some (0, S') ∧ eFr S S' ∧ cRs S' (nlR (sEx (sAnd (u (12 + H i - 1)).2.2.1 sAl)) 6 r') (sOr s' (sAnd (u (12 + H i - 1)).2.2.1 sAl)) := by
    intro T r' s' hT hk
    unfold ja_X4_throwsSites_b32
    by_cases c : sEx (sAnd (u (12 + H i - 1)).2.2.1 sAl) = true
    · rw [if_neg (fun q => by rw [hz'.mp q] at c; cases c), lt_eq, lt_eq]
      refine ⟨_, rfl, eFr_trans hT ⟨rfl, fun a x _ _ _ => by rw [wi_n x, wi_n x], fun f x y => by rw [wi_at, if_neg y, wi_at, if_neg x]⟩, ?_, ?_⟩
      · rw [wi_at, if_neg (by decide), wi_at, if_pos rfl]
        unfold nlR
        rw [if_pos c]
        exact cI_or hk.1 h64
      · rw [wi_at, if_pos rfl, wi_at, if_neg (by decide)]
        exact cV_or hk.2 hand
    · rw [if_pos (hz'.mpr (nf_t c))]
      refine ⟨T, rfl, hT, ?_, ?_⟩
      · unfold nlR
        rw [if_neg c]; exact hk.1
      · refine cV_e hk.2 (fun j hj => ?_)
        show s' j = (s' j || sAnd (u (12 + H i - 1)).2.2.1 sAl j)
        have : sAnd (u (12 + H i - 1)).2.2.1 sAl j = false := nf_t fun q => c (sEx_iff.mpr ⟨j, w63 j (sAnd_l _ _ j q), q⟩)
        rw [this, Bool.or_false]
  unfold ja_X4_throwsSites
  rw [jc_92_2, top, bd_some, if_pos (in_i (N := 20) (by omega)), lt_eq, jc_93_4, Int.toNat_natCast]
  by_cases c : (u (12 + H i - 1)).2.2.1 62 = true
  · rw [if_neg (fun q => by rw [(cV_bit sv).mp q] at c; cases c)]
    obtain ⟨T, t1, t2, t3, t4⟩ := c_raise k hr (e := 0) (by decide)
    have t1' : ja_X4_raise 92 0 S = some (0, T) := t1
    rw [t1', bd_some]
    have : nlR ((u (12 + H i - 1)).2.2.1 62) 0 r = sOr r (onS 0) ∧ nlR ((u (12 + H i - 1)).2.2.1 62) 48 s = sOr s (onS 48) := by unfold nlR; rw [if_pos c, if_pos c]; exact ⟨rfl, rfl⟩
    rw [this.1, this.2]
    exact hb32 T _ _ t2 t3
  · rw [if_pos ((cV_bit sv).mpr (nf_t c))]
    have : nlR ((u (12 + H i - 1)).2.2.1 62) 0 r = r ∧ nlR ((u (12 + H i - 1)).2.2.1 62) 48 s = s := by unfold nlR; rw [if_neg c, if_neg c]; exact ⟨rfl, rfl⟩
    rw [this.1, this.2]
    exact hb32 S _ _ eFr_rfl k
/-- a number is read -/
theorem c_read (hr : cRw (lc i) (H i) S u) (h8 : H i < 8) (ho : x.1 = 44) : ∃ S' v, ja_X7_push 93 (-9223372034707292161) 4503599627370496 S = some (0, S') ∧ wFr S S' ∧ pGo G σ x (H i) u = some v ∧ cRw (lc i) (H i + 1) S' v := by
  have e : (-9223372034707292161 : Int) = pk rAll := by unfold pk rAll; decide
  obtain ⟨S', s1, s2, s3⟩ := c_push hr h8 (cSt_R (r := rAll))
  refine ⟨S', _, by rw [e]; exact s1, s2, ?_, s3⟩
  unfold pGo
  rw [if_neg (by omega), if_neg (by omega), if_neg (by omega), if_neg (by omega), if_neg (by omega), if_neg (by omega), if_neg (by omega), if_neg (by omega), if_neg (by omega), if_neg (by omega), if_neg (by omega), if_neg (by omega), if_neg (by omega), if_neg (by omega), if_neg (by omega), if_neg (by omega), if_neg (by omega), if_neg (by omega), if_neg (by omega), if_neg (by omega), if_pos ho]
end CIS
