/-! ===== E: odds and likely, both ===== -/
theorem hx_odds (d : Nat) {n : Nat} (hn : n ≤ 512) {E : hx_Env} {t : hx_St} {μ : hs_M} (h : hx_I n E t μ) (x y : Int32) : hx_A n μ (hc_H_odds (d + 112) x y) (hc_M_odds (d + 112) x y) := by
  have h8 := h.1.1.1
  have h0 := hx_I0 (hx_Ia h)
  have ec : ∀ A B : Option (Option hs_V × hs_M), (if y < 0 then A else if 2 < y then A else B) = if hx_rg 0 2 y = true then B else A := fun A B => hx_if2 y 0 2 A B
  have er : hx_rg (Int64.toInt 0) (Int64.toInt 2) y = hx_rg 0 2 y := rfl
  by_cases c : hx_isP (hx_P E) x = true
  rotate_left
  · apply hx_Anone h (v := -1)
    · rw [hq_H_odds, hx_thas _ h.1, hx_bI, hx_tn0, if_neg c, hq_H_odds_20]
    · rw [hq_M_odds, hx_isPM _ h0.2.1, hx_bI, hx_tn0, if_neg c, hq_M_odds_25]
  by_cases c2 : hx_rg 0 2 y = true
  rotate_left
  · apply hx_Anone h (v := -1)
    · rw [hq_H_odds, hx_thas _ h.1, hx_bI, hx_tn0, if_pos c, hq_H_odds_20, ec, if_neg c2]
    · rw [hq_M_odds, hx_isPM _ h0.2.1, hx_bI, hx_tn0, if_pos c, hx_inR, hx_bI, hx_tn0, er, if_neg c2, hq_M_odds_25]
  obtain ⟨k, hk, ey⟩ := hx_rgN (n := 2) c2
  obtain ⟨p, hp, ex⟩ := hx_isPn c
  have ht := h.2.2.2.2.1
  have S0 := h.2.2.1.1
  have od := hx_odle h.1.1 t p
  -- one fraction told by both
  have fin : ∀ (a b : Nat) (μ1 : hs_M), a < 2 ^ 63 → 0 < b → b < 2 ^ 54 → hx_fr hx_qC μ μ1 → (∀ μ2, hc_Row_fraction (d + 110) (lN a) (lN b) μ1 = some (none, μ2) → hc_Future_tellChance (d + 111) (nI p) (nI k) μ = some (none, μ2)) → (∀ μ2 : hs_M, hx_I' n E t (hs_wI μ2 12 0 0 0) → ∃ μ3, hx_fr hx_qR (hs_wI (hs_wI μ2 12 0 0 0) 12 0 1 0) μ3 ∧ ∀ μ4, hc_M_entersFraction (d + 111) (lN a) (lN b) μ3 = some (none, μ4) → hc_M_odds (d + 112) (nI p) (nI k) μ2 = some (some (vI 0), μ4)) → hx_A n μ (hc_H_odds (d + 112) x y) (hc_M_odds (d + 112) x y) := by
    intro a b μ1 ha hb hb2 f1 hc hm
    obtain ⟨μ2, e2, f2, r2⟩ := hx_frC (d + 107) ha hb hb2 μ1
    have q2 := hx_tr (hx_qCX f1) (hx_xRq f2)
    have hI := hx_I0 (hx_Ir h q2)
    obtain ⟨μ3, f3, g3⟩ := hm μ2 hI
    obtain ⟨μ4, e4, f4, r4⟩ := hx_frR d ha hb hb2 (μ := μ3) (hx_rwRf f3 (by intro κ i x z; unfold hx_qR at z; omega) (hx_rwz _))
    refine ⟨0, μ2, μ4, ?_, ?_, E, t, hx_Iq1 h q2 r2 (hx_tr (hx_tr (hx_wr (hx_wr (hx_rf _ _) _ (by unfold hx_qY hx_qR; omega)) _ (by unfold hx_qY hx_qR; omega)) (hx_qRY f3)) (hx_yRq f4)) r4⟩
    · rw [hq_H_odds, hx_thas _ h.1, hx_bI, hx_tn0, if_pos c, hq_H_odds_20, ec, if_pos c2, ex, ey, hc μ2 e2, hx_bV]
    · rw [ex, ey]
      exact g3 μ4 e4
  have hk3 : k = 0 ∨ k = 1 ∨ k = 2 := by omega
  have cP : hx_isP (hx_P E) (nI p) = true := hx_isPi hp h8
  have cK : hx_rg (Int64.toInt 0) (Int64.toInt 2) (nI k) = true := by
    rw [← ey]
    exact c2
  rcases hk3 with rfl | rfl | rfl
  · by_cases cw : t 17 = nI p
    · apply fin 1 1 μ (by omega) (by omega) (by omega) (hx_rf _ _)
      · intro μ2 e2
        rw [hq_Future_tellChance, if_pos (show nI 0 = (0 : Int32) from rfl), S0.2.2.2.1, if_pos cw, show hc_Row_fraction (d + 110) 1 1 μ = hc_Row_fraction (d + 110) (lN 1) (lN 1) μ from rfl, e2, hx_bV]
      · intro μ2 hI
        refine ⟨_, hx_rf _ _, fun μ4 e4 => ?_⟩
        rw [hq_M_odds, hx_isPM _ hI.2.1, hx_bI, hx_tn0, if_pos cP, hx_inR, hx_bI, hx_tn0, if_pos cK, if_pos (show nI 0 = (0 : Int32) from rfl), hx_SR0 hI.2.2.2.1 (by omega), if_pos cw, hx_flag1, hx_bI, show (1 : Int32).toInt64 = lN 1 from by decide, show (1 : Int64) = lN 1 from rfl, e4, hx_bV]
    · apply fin 0 1 μ (by omega) (by omega) (by omega) (hx_rf _ _)
      · intro μ2 e2
        rw [hq_Future_tellChance, if_pos (show nI 0 = (0 : Int32) from rfl), S0.2.2.2.1, if_neg cw, show hc_Row_fraction (d + 110) 0 1 μ = hc_Row_fraction (d + 110) (lN 0) (lN 1) μ from rfl, e2, hx_bV]
      · intro μ2 hI
        refine ⟨_, hx_rf _ _, fun μ4 e4 => ?_⟩
        rw [hq_M_odds, hx_isPM _ hI.2.1, hx_bI, hx_tn0, if_pos cP, hx_inR, hx_bI, hx_tn0, if_pos cK, if_pos (show nI 0 = (0 : Int32) from rfl), hx_SR0 hI.2.2.2.1 (by omega), if_neg cw, hx_flag0, hx_bI, show (0 : Int32).toInt64 = lN 0 from by decide, show (1 : Int64) = lN 1 from rfl, e4, hx_bV]
  · obtain ⟨μ1, e1, f1, o1⟩ := hx_shares (d + 106) (κ := 37) (Or.inl rfl) h.1 ht S0
    have q1 : hx_fr hx_qC μ μ1 := hx_mo (fun κ b i x => by unfold hx_qC; omega) f1
    apply fin (hx_od E t p) 100000000 μ1 (by omega) (by omega) (by omega) q1
    · intro μ2 e2
      rw [hq_Future_tellChance, if_neg (by decide), e1, hx_bV, if_pos (show nI 1 = (1 : Int32) from rfl), show (1 : Int32) + nI p = nI (1 + p) from nI_add 1 p, if_pos (hx_in (by omega) (by omega)), nI_clamp (by omega), o1.2 p (by omega), show (100000000 : Int64) = lN 100000000 from rfl, e2, hx_bV, hq_Future_tellChance_85]
    · intro μ2 hI
      have f0 : hx_fr hx_yR (hs_wI μ2 12 0 0 0) (hs_wI (hs_wI μ2 12 0 0 0) 12 0 1 0) := hx_wr (hx_rf _ _) _ (by unfold hx_yR; omega)
      obtain ⟨μ3, e3, f3, o3⟩ := hx_oddsM (d + 105) (κ1 := 45) (κ2 := 63) (Or.inl rfl) (Or.inl rfl) (hx_ER_R f0 hI.2.1) ht (hx_SR_R f0 (by omega) (by omega) hI.2.2.2.1)
      refine ⟨μ3, hx_mo (fun κ b i x => by unfold hx_qR; omega) f3, fun μ4 e4 => ?_⟩
      rw [hq_M_odds, hx_isPM _ hI.2.1, hx_bI, hx_tn0, if_pos cP, hx_inR, hx_bI, hx_tn0, if_pos cK, if_neg (by decide), e3, hx_bV, if_pos (show nI 1 = (1 : Int32) from rfl), if_pos (hx_in (by omega) (by omega)), nI_clamp (by omega), o3 p (by omega), show (100000000 : Int64) = lN 100000000 from rfl, e4, hx_bV]
  · obtain ⟨μ1, e1, f1, o1⟩ := hx_shares (d + 106) (κ := 37) (Or.inl rfl) h.1 ht S0
    have q1 : hx_fr hx_qC μ μ1 := hx_mo (fun κ b i x => by unfold hx_qC; omega) f1
    obtain ⟨μ1', e1', f1'⟩ := hx_chance (d + 105) (hx_ECq (hx_qCX q1) h.1) ht (by omega) (hx_SCq (hx_qCX q1) (by omega) S0) hp o1
    have b1 := hx_tmle h.1.1 t p 8
    have b2 := hx_tmsle h.1.1 t p 9
    have same : hx_tm E t p 8 + hx_tms E t p (hx_P E) = hx_tms E t p 9 := by
      have := hx_tmx h.1.1 ht p (8 - hx_P E) (by omega)
      rw [show hx_P E + (8 - hx_P E) = 8 by omega] at this
      rw [hx_tmS, ← this]
      omega
    rw [same] at e1'
    apply fin (hx_tms E t p 9) 10000000000000000 μ1' (by omega) (by omega) (by omega) (hx_tr q1 (hx_xZq f1'))
    · intro μ2 e2
      rw [hq_Future_tellChance, if_neg (by decide), e1, hx_bV, if_neg (by decide), e1', hx_bL, show (10000000000000000 : Int64) = lN 10000000000000000 from rfl, e2, hx_bV, hq_Future_tellChance_85]
    · intro μ2 hI
      have f0 : hx_fr hx_yR (hs_wI μ2 12 0 0 0) (hs_wI (hs_wI μ2 12 0 0 0) 12 0 1 0) := hx_wr (hx_rf _ _) _ (by unfold hx_yR; omega)
      have E0 := hx_ER_R f0 hI.2.1
      have R0 := hx_SR_R f0 (κ := 45) (by omega) (by omega) hI.2.2.2.1
      obtain ⟨μ3, e3, f3, o3⟩ := hx_oddsM (d + 105) (κ1 := 45) (κ2 := 63) (Or.inl rfl) (Or.inl rfl) E0 ht R0
      have q3 : hx_fr hx_qR _ μ3 := hx_mo (fun κ b i x => by unfold hx_qR; omega) f3
      obtain ⟨μ3', e3', f3'⟩ := hx_o2R (d + 105) ht (by omega) hp 9 0 μ3 (by omega) (hx_ERq (hx_qRY q3) E0) (hx_SRq (hx_qRY q3) R0) o3
      refine ⟨μ3', hx_tr q3 (hx_yZq f3'), fun μ4 e4 => ?_⟩
      rw [hq_M_odds, hx_isPM _ hI.2.1, hx_bI, hx_tn0, if_pos cP, hx_inR, hx_bI, hx_tn0, if_pos cK, if_neg (by decide), e3, hx_bV, if_neg (by decide), show he_M_odds_100 (d + 111) (nI p) 0 0 μ3 = he_M_odds_100 (d + 105 + 6) (nI p) (lN (hx_tms E t p 0)) (nI 0) μ3 from rfl, e3', show (10000000000000000 : Int64) = lN 10000000000000000 from rfl, e4, hx_bV]
/-! likely -/
def hx_lk' (f : Nat → Nat) : Nat → Nat
  | 0 => 8
  | k + 1 => if f (hx_lk' f k) < f k then k else hx_lk' f k
theorem hx_lkS (f : Nat → Nat) (k : Nat) : hx_lk' f (k + 1) = if f (hx_lk' f k) < f k then k else hx_lk' f k := rfl
theorem hx_lkR (f : Nat → Nat) : ∀ k, hx_lk' f k = 8 ∨ hx_lk' f k < k
  | 0 => Or.inl rfl
  | k + 1 => by
    have := hx_lkR f k
    rw [hx_lkS]
    split <;> omega
def hx_ci (i : Nat) : Nat := if i = 8 then 0 else 1 + i
theorem hx_oCi {μ : hs_M} {κ : Nat} {f : Nat → Nat} (h : hx_oC μ κ f) {i : Nat} (hi : i ≤ 8) : μ.2 κ 0 (hx_ci i) = lN (f i) := by
  unfold hx_ci
  by_cases c : i = 8
  · rw [if_pos c, c]
    exact h.1
  · rw [if_neg c]
    exact h.2 i (by omega)
theorem hx_lkC (d : Nat) {μ : hs_M} {E : hx_Env} (hE : hx_EC μ E) {f : Nat → Nat} (hf : ∀ i, f i ≤ 200000000) (ho : hx_oC μ 37 f) : ∀ (m k : Nat), k + m = hx_P E → he_Future_likeliest_19 d (nI (hx_ci (hx_lk' f k))) (nI (k + 1)) μ = he_Future_likeliest_19 d (nI (hx_ci (hx_lk' f (hx_P E)))) (nI (hx_P E + 1)) μ
  | 0, k, hk => by rw [show k = hx_P E from hk]
  | m + 1, k, hk => by
    have h8 := hE.1.1
    have ih := hx_lkC d hE hf ho m (k + 1) (by omega)
    have hl := hx_lkR f k
    have c8 : hx_ci (hx_lk' f k) < 9 := by unfold hx_ci; split <;> omega
    have ek := ho.2 k (by omega)
    have f1 := hf k
    have f2 := hf (hx_lk' f k)
    rw [← ih]
    conv => lhs; rw [hq_Future_likeliest_19]
    rw [hx_eP hE, if_neg (nI_nlt (by omega) (by omega)), if_pos (hx_in (by omega) (by omega)), if_pos (hx_in c8 (by omega)), nI_clamp (by omega), nI_clamp (by omega), hx_oCi ho (by omega), show k + 1 = 1 + k by omega, ek, hq_Future_likeliest_48, hq_Future_likeliest_48, nI_1, show 1 + k = k + 1 by omega, hx_lkS]
    by_cases c : f (hx_lk' f k) < f k
    · rw [if_pos (by rw [lg_cmp_gt]; exact (pk_lLT (by omega) (by omega)).mpr c), if_pos c, show hx_ci k = k + 1 by unfold hx_ci; rw [if_neg (by omega)]; omega]
    · rw [if_neg (by rw [lg_cmp_gt]; exact fun z => c ((pk_lLT (by omega) (by omega)).mp z)), if_neg c]
theorem hx_lkM (d : Nat) {μ : hs_M} {E : hx_Env} (hE : hx_ER μ E) {f : Nat → Nat} (hf : ∀ i, f i ≤ 200000000) (ho : hx_oR μ 63 f) : ∀ (m k : Nat), k + m = hx_P E → he_M_likely_22 d (nI (hx_lk' f k)) (nI k) μ = he_M_likely_22 d (nI (hx_lk' f (hx_P E))) (nI (hx_P E)) μ
  | 0, k, hk => by rw [show k = hx_P E from hk]
  | m + 1, k, hk => by
    have h8 := hE.1.1
    have ih := hx_lkM d hE hf ho m (k + 1) (by omega)
    have hl := hx_lkR f k
    have f1 := hf k
    have f2 := hf (hx_lk' f k)
    rw [← ih]
    conv => lhs; rw [hq_M_likely_22]
    rw [hx_rP hE, if_pos (nI_lt (by omega) (by omega)), if_pos (hx_in (by omega) (by omega)), if_pos (hx_in (by omega) (by omega)), nI_clamp (by omega), nI_clamp (by omega), ho k (by omega), ho (hx_lk' f k) (by omega), nI_1, hx_lkS]
    by_cases c : f (hx_lk' f k) < f k
    · rw [if_pos (by rw [lg_cmp_gt]; exact (pk_lLT (by omega) (by omega)).mpr c), if_pos c]
    · rw [if_neg (by rw [lg_cmp_gt]; exact fun z => c ((pk_lLT (by omega) (by omega)).mp z)), if_neg c]
theorem hx_likely (d : Nat) {n : Nat} (hn : n ≤ 512) {E : hx_Env} {t : hx_St} {μ : hs_M} (h : hx_I n E t μ) : hx_A n μ (hc_H_likely (d + 112)) (hc_M_likely (d + 112)) := by
  have h8 := h.1.1.1
  have ht := h.2.2.2.2.1
  have hl := hx_lkR (hx_od E t) (hx_P E)
  have od := hx_odle h.1.1 t (hx_lk' (hx_od E t) (hx_P E))
  have c9 : hx_ci (hx_lk' (hx_od E t) (hx_P E)) < 9 := by unfold hx_ci; split <;> omega
  obtain ⟨μ1, e1, f1, o1⟩ := hx_shares (d + 106) (κ := 37) (Or.inl rfl) h.1 ht h.2.2.1.1
  have q1 : hx_fr hx_qC μ μ1 := hx_mo (fun κ b i x => by unfold hx_qC; omega) f1
  have E1 := hx_ECq (hx_qCX q1) h.1
  obtain ⟨μ2, e2, f2, r2⟩ := hx_frC (d + 107) (a := hx_od E t (hx_lk' (hx_od E t) (hx_P E))) (b := 100000000) (by omega) (by omega) (by omega) μ1
  have q2 := hx_tr (hx_qCX q1) (hx_xRq f2)
  have hI := hx_I0 (hx_Ir h q2)
  obtain ⟨μ3, e3, f3, o3⟩ := hx_oddsM (d + 105) (κ1 := 45) (κ2 := 63) (Or.inl rfl) (Or.inl rfl) hI.2.1 ht hI.2.2.2.1
  have q3 : hx_fr hx_qR _ μ3 := hx_mo (fun κ b i x => by unfold hx_qR; omega) f3
  have E3 := hx_ERq (hx_qRY q3) hI.2.1
  obtain ⟨μ4, e4, f4, r4⟩ := hx_frR d (a := hx_od E t (hx_lk' (hx_od E t) (hx_P E))) (b := 100000000) (by omega) (by omega) (by omega) (hx_rwz μ3)
  refine ⟨if hx_lk' (hx_od E t) (hx_P E) = 8 then -1 else nI (hx_lk' (hx_od E t) (hx_P E)), μ2, μ4, ?_, ?_, E, t, hx_Iq1 h q2 r2 (hx_tr (hx_tr (hx_tr (hx_wr (hx_rf _ _) _ (by unfold hx_qY hx_qR; omega)) (hx_qRY q3)) (hx_wr (hx_rf _ _) _ (by unfold hx_qY; omega))) (hx_yRq f4)) r4⟩
  · rw [hq_H_likely, hq_Future_likeliest, e1, hx_bV, show he_Future_likeliest_19 (d + 110) 0 1 μ1 = he_Future_likeliest_19 (d + 110) (nI (hx_ci (hx_lk' (hx_od E t) 0))) (nI (0 + 1)) μ1 from rfl, hx_lkC _ E1 (hx_odle h.1.1 t) o1 (hx_P E) 0 (by omega), hq_Future_likeliest_19, hx_eP E1, if_pos (nI_lt (by omega) (by omega)), if_pos (hx_in c9 (by omega)), nI_clamp (by omega), hx_oCi o1 (by omega), show (100000000 : Int64) = lN 100000000 from rfl, e2, hx_bV, hx_bI]
    by_cases z : hx_lk' (hx_od E t) (hx_P E) = 8
    · rw [if_pos z, show hx_ci (hx_lk' (hx_od E t) (hx_P E)) = 0 from if_pos z]
      rfl
    · rw [if_neg z, show hx_ci (hx_lk' (hx_od E t) (hx_P E)) = hx_lk' (hx_od E t) (hx_P E) + 1 by unfold hx_ci; rw [if_neg z]; omega, nI_pred]
  · rw [hq_M_likely, e3, hx_bV, show he_M_likely_22 (d + 111) 8 0 μ3 = he_M_likely_22 (d + 111) (nI (hx_lk' (hx_od E t) 0)) (nI 0) μ3 from rfl, hx_lkM _ E3 (hx_odle h.1.1 t) o3 (hx_P E) 0 (by omega), hq_M_likely_22, hx_rP E3, if_neg (nI_nlt (by omega) (by omega)), if_pos (hx_in (by omega) (by omega)), nI_clamp (by omega), o3 _ (by omega), show (100000000 : Int64) = lN 100000000 from rfl, e4, hx_bV]
    by_cases z : hx_lk' (hx_od E t) (hx_P E) = 8
    · rw [if_pos z, if_pos (by rw [z]; rfl)]
    · rw [if_neg z, if_neg (show ¬ nI (hx_lk' (hx_od E t) (hx_P E)) = (8 : Int32) from by rw [show (8 : Int32) = nI 8 from rfl, nI_eq (by omega) (by omega)]; exact z)]
