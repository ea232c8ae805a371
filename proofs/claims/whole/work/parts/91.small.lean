/-! ===== E: texts, pairs, the scale ===== -/
theorem hx_iR2 {X Y : Nat → Nat → Nat → Prop} {μ μ1 μ2 : hs_M} (h : hx_iR μ) (f1 : hx_fr X μ μ1) (f2 : hx_fr Y μ1 μ2) (hX : ∀ κ i, ((κ = 4 ∧ i = 1) ∨ κ = 14 ∨ (κ = 12 ∧ i = 1) ∨ κ = 40) → ¬ X κ 0 i ∧ ¬ Y κ 0 i) : hx_iR μ2 := by
  obtain ⟨l, a, b⟩ := h
  exact ⟨l, hx_rwCf f2 (fun κ i x => (hX κ i (by omega)).2) (hx_rwCf f1 (fun κ i x => (hX κ i (by omega)).1) a), hx_rwRf f2 (fun κ i x => (hX κ i (by omega)).2) (hx_rwRf f1 (fun κ i x => (hX κ i (by omega)).1) b)⟩
/-- a call that changes a few cells of what is kept: all the rest stays -/
theorem hx_Ix {X Y : Nat → Nat → Nat → Prop} {n : Nat} {E : hx_Env} {t : hx_St} {μ μ1 μ2 : hs_M} (h : hx_I n E t μ) (f1 : hx_fr X μ μ1) (f2 : hx_fr Y μ1 μ2) : ((∀ κ i, hx_cF κ i → ¬ X κ 0 i ∧ ¬ Y κ 0 i) → hx_EC μ2 E) ∧ ((∀ κ i, hx_rF κ i → ¬ X κ 0 i ∧ ¬ Y κ 0 i) → hx_ER μ2 E) ∧ ((∀ κ i, (κ = 6 ∨ (24 ≤ κ ∧ κ ≤ 29)) → ¬ X κ 0 i ∧ ¬ Y κ 0 i) → hx_SF μ2 0 t) ∧ ((∀ i, i < 117 → ¬ X 45 0 (0 + i) ∧ ¬ Y 45 0 (0 + i)) → hx_SR μ2 45 0 t) ∧ hx_tw (hx_P E) (100 * (n + 1)) t ∧ ((∀ κ j i, hx_fT κ j i → ¬ X κ j i ∧ ¬ Y κ j i) → hx_iT μ2) ∧ ((∀ κ i, ((κ = 4 ∧ i = 1) ∨ κ = 14 ∨ (κ = 12 ∧ i = 1) ∨ κ = 40) → ¬ X κ 0 i ∧ ¬ Y κ 0 i) → hx_iR μ2) ∧ ((∀ κ j i, hx_fP κ j i → ¬ X κ j i ∧ ¬ Y κ j i) → hx_iP (hx_P E) (100 * (n + 1)) μ2) ∧ ((∀ κ j i, hx_fK κ j i → ¬ X κ j i ∧ ¬ Y κ j i) → hx_iK (hx_P E) (100 * (n + 1)) μ2) ∧ ((∀ κ j i, hx_fW κ j i → ¬ X κ j i ∧ ¬ Y κ j i) → hx_iW (hx_P E) μ2) ∧ ((∀ κ j i, hx_fD κ j i → ¬ X κ j i ∧ ¬ Y κ j i) → hx_iD (hx_P E) μ2) := by
  obtain ⟨a, b, c, e, g, h1, h2, h3, h4, h5, h6⟩ := h
  have w : 100 * n ≤ 100 * (n + 1) := by omega
  refine ⟨fun z => hx_ECf f2 (fun κ i x => (z κ i x).2) (hx_ECf f1 (fun κ i x => (z κ i x).1) a), fun z => hx_ERf f2 (fun κ i x => (z κ i x).2) (hx_ERf f1 (fun κ i x => (z κ i x).1) b), fun z => hx_SFf f2 (fun κ i x => (z κ i x).2) (hx_SFf f1 (fun κ i x => (z κ i x).1) c), fun z => hx_SRf f2 (fun i x => (z i x).2) (hx_SRf f1 (fun i x => (z i x).1) e), hx_twm g w, fun z => hx_iTf f2 (fun κ j i x => (z κ j i x).2) (hx_iTf f1 (fun κ j i x => (z κ j i x).1) h1), fun z => hx_iR2 h2 f1 f2 z, fun z => hx_iPf f2 (fun κ j i x => (z κ j i x).2) w (hx_iPf f1 (fun κ j i x => (z κ j i x).1) (Nat.le_refl _) h3), fun z => hx_iKf f2 (fun κ j i x => (z κ j i x).2) w (hx_iKf f1 (fun κ j i x => (z κ j i x).1) (Nat.le_refl _) h4), fun z => hx_iWf f2 (fun κ j i x => (z κ j i x).2) (hx_iWf f1 (fun κ j i x => (z κ j i x).1) h5), fun z => hx_iDf f2 (fun κ j i x => (z κ j i x).2) (hx_iDf f1 (fun κ j i x => (z κ j i x).1) h6)⟩
/-! sign -/
def hx_sb4 (v : Int32) (k : Nat) : Int32 := (v >>> ((24 - 8 * nI k) &&& 31)) &&& 255
theorem hx_c24 : ∀ k, k < 4 → (24 : Int32) - 8 * nI k = nI (24 - 8 * k) := by decide +kernel
theorem hx_u24 : ∀ k, k < 32 → (((nI k).toUInt32 &&& Int32.toUInt32 31).toBitVec % 32).toNat = k := by decide +kernel
theorem hx_ush (n : Nat) (hn : n < 32) (x : Int32) (i : Nat) : bt ((x.toUInt32 >>> ((nI n).toUInt32 &&& Int32.toUInt32 31)).toInt32) i = bt x (n + i) := by
  show (x.toUInt32 >>> ((nI n).toUInt32 &&& Int32.toUInt32 31)).toBitVec.getLsbD i = x.toUInt32.toBitVec.getLsbD (n + i)
  rw [UInt32.toBitVec_shiftRight]
  show (x.toUInt32.toBitVec >>> (((nI n).toUInt32 &&& Int32.toUInt32 31).toBitVec % 32).toNat).getLsbD i = _
  rw [hx_u24 n hn, BitVec.getLsbD_ushiftRight]
theorem hx_sbu (v : Int32) {k : Nat} (hk : k < 4) : ((v.toUInt32 >>> ((24 - 8 * nI k).toUInt32 &&& Int32.toUInt32 31)).toInt32 &&& 255) = hx_sb4 v k := by
  unfold hx_sb4
  rw [hx_c24 k hk]
  apply b_ext
  intro i hi
  rw [b_and, b_and, b_255]
  by_cases c : i < 8
  · rw [hx_ush _ (by omega), b_sshr _ (by omega) _ hi, if_pos (by omega)]
  · rw [decide_eq_false c, Bool.and_false, Bool.and_false]
theorem hx_sbn (v : Int32) (k : Nat) : ∃ c, c < 256 ∧ hx_sb4 v k = nI c := by
  unfold hx_sb4
  obtain ⟨j, hj, e⟩ := pk_andE (v >>> ((24 - 8 * nI k) &&& 31)) (m := 255) 8 (by decide)
  exact ⟨j, by omega, e⟩
theorem hx_sgC (d : Nat) (v : Int32) {l : Nat} (hl : l ≤ 76) {μ0 : hs_M} (h7 : μ0.1 7 0 1 = nI l) : ∀ (m k : Nat) (μ : hs_M), k + m = 4 → hx_fr (fun κ b i => κ = 13 ∧ b = 0 ∧ l ≤ i) μ0 μ → (∀ i, i < k → μ.1 13 0 (l + i) = hx_sb4 v i) → ∃ μ', he_Text_append_20 d v (nI k) μ = some (some (vI 1), hs_wI μ' 7 0 1 (nI (l + 4))) ∧ hx_fr (fun κ b i => κ = 13 ∧ b = 0 ∧ l ≤ i) μ0 μ' ∧ (∀ i, i < 4 → μ'.1 13 0 (l + i) = hx_sb4 v i)
  | 0, k, μ, hk, f, h => by
    rw [hq_Text_append_20, if_neg (show ¬ nI k < (4 : Int32) from nI_nlt (b := 4) (by omega) (by omega)), f.1 7 0 1 (by omega), h7, show nI l + 4 = nI (l + 4) from nI_add l 4, hx_rz1]
    exact ⟨μ, rfl, f, fun i hi => h i (by omega)⟩
  | m + 1, k, μ, hk, f, h => by
    rw [hq_Text_append_20, if_pos (show nI k < (4 : Int32) from nI_lt (b := 4) (by omega) (by omega)), f.1 7 0 1 (by omega), h7, nI_add, if_pos (hx_in (by omega) (by omega)), nI_clamp (by omega), hx_sbu v (by omega), nI_1]
    apply hx_sgC d v hl h7 m (k + 1) _ (by omega) (hx_wr f _ ⟨rfl, rfl, by omega⟩)
    intro i hi
    rw [hx_rd]
    by_cases c : i = k
    · rw [if_pos ⟨rfl, by omega, rfl⟩, c]
    · rw [if_neg (by omega), h i (by omega)]
theorem hx_sgR (d : Nat) (v : Int32) {l : Nat} (hl : l ≤ 76) {μ0 : hs_M} (h7 : μ0.1 12 0 13 = nI l) : ∀ (m k : Nat) (μ : hs_M), k + m = 4 → hx_fr (fun κ b i => κ = 47 ∧ b = 0 ∧ l ≤ i) μ0 μ → (∀ i, i < k → μ.1 47 0 (l + i) = hx_sb4 v i) → ∃ μ', he_M_sign_18 d v (nI k) μ = some (some (vI (nI (l + 4))), hs_wI μ' 12 0 13 (nI (l + 4))) ∧ hx_fr (fun κ b i => κ = 47 ∧ b = 0 ∧ l ≤ i) μ0 μ' ∧ (∀ i, i < 4 → μ'.1 47 0 (l + i) = hx_sb4 v i)
  | 0, k, μ, hk, f, h => by
    rw [hq_M_sign_18, if_neg (show ¬ nI k < (4 : Int32) from nI_nlt (b := 4) (by omega) (by omega)), f.1 12 0 13 (by omega), h7, show nI l + 4 = nI (l + 4) from nI_add l 4]
    exact ⟨μ, rfl, f, fun i hi => h i (by omega)⟩
  | m + 1, k, μ, hk, f, h => by
    rw [hq_M_sign_18, if_pos (show nI k < (4 : Int32) from nI_lt (b := 4) (by omega) (by omega)), f.1 12 0 13 (by omega), h7, nI_add, if_pos (hx_in (by omega) (by omega)), nI_clamp (by omega), nI_1]
    apply hx_sgR d v hl h7 m (k + 1) _ (by omega) (hx_wr f _ ⟨rfl, rfl, by omega⟩)
    intro i hi
    rw [hx_rd]
    by_cases c : i = k
    · rw [if_pos ⟨rfl, by omega, rfl⟩, c]
      rfl
    · rw [if_neg (by omega), h i (by omega)]
def hx_xt (κ b i : Nat) : Prop := (κ = 13 ∧ b = 0) ∨ (κ = 7 ∧ b = 0 ∧ i = 1)
def hx_yt (κ b i : Nat) : Prop := (κ = 47 ∧ b = 0) ∨ (κ = 12 ∧ b = 0 ∧ (i = 13 ∨ i = 0))
theorem hx_It {n : Nat} {E : hx_Env} {t : hx_St} {μ μ1 μ2 : hs_M} (h : hx_I n E t μ) (f1 : hx_fr hx_xt μ μ1) (f2 : hx_fr hx_yt μ1 μ2) (hT : hx_iT μ2) : hx_I (n + 1) E t μ2 := by
  obtain ⟨a, b, c, e, g, h1, h2, h3, h4, h5, h6⟩ := hx_Ix h f1 f2
  refine ⟨a ?_, b ?_, c ?_, e ?_, g, hT, h2 ?_, h3 ?_, h4 ?_, h5 ?_, h6 ?_⟩ <;> intros <;> simp only [hx_cF, hx_rF, hx_fP, hx_fK, hx_fW, hx_fD, hx_xt, hx_yt] at * <;> omega
theorem hx_sign (d : Nat) {n : Nat} {E : hx_Env} {t : hx_St} {μ : hs_M} (h : hx_I n E t μ) (v : Int32) : hx_A n μ (hc_H_sign (d + 2) v) (hc_M_sign (d + 2) v) := by
  obtain ⟨l, hl, t1, t2, t3⟩ := h.2.2.2.2.2.1
  by_cases c : l ≤ 76
  · obtain ⟨μ1, e1, f1, g1⟩ := hx_sgC d v c t1 4 0 μ (by omega) (hx_rf _ _) (fun i hi => absurd hi (by omega))
    have F1 : hx_fr hx_xt μ (hs_wI μ1 7 0 1 (nI (l + 4))) := hx_wr (hx_mo (fun κ b i x => by unfold hx_xt; omega) f1) _ (by unfold hx_xt; omega)
    obtain ⟨μ2, e2, f2, g2⟩ := hx_sgR (d + 1) v c (μ0 := hs_wI (hs_wI μ1 7 0 1 (nI (l + 4))) 12 0 0 0) (by rw [hx_rd, if_neg (by omega), F1.1 12 0 13 (by unfold hx_xt; omega), t2]) 4 0 _ (by omega) (hx_rf _ _) (fun i hi => absurd hi (by omega))
    have F2 : hx_fr hx_yt (hs_wI μ1 7 0 1 (nI (l + 4))) (hs_wI μ2 12 0 13 (nI (l + 4))) := hx_wr (hx_tr (hx_wr (hx_rf _ _) _ (by unfold hx_yt; omega)) (hx_mo (fun κ b i x => by unfold hx_yt; omega) f2)) _ (by unfold hx_yt; omega)
    refine ⟨nI (l + 4), hs_wI μ1 7 0 1 (nI (l + 4)), hs_wI μ2 12 0 13 (nI (l + 4)), ?_, ?_, E, t, hx_It h F1 F2 ⟨l + 4, by omega, ?_, ?_, ?_⟩⟩
    · rw [hq_H_sign, hq_Text_append, t1, if_neg (nI_pos (by omega)), if_neg (show ¬ (76 : Int32) < nI l from nI_nlt (a := 76) c (by omega)), show he_Text_append_20 d v 0 μ = he_Text_append_20 d v (nI 0) μ from rfl, e1, hx_bI, if_neg (by decide), hx_rd, if_pos ⟨rfl, rfl, rfl⟩]
    · rw [hq_M_sign, F1.1 12 0 13 (by unfold hx_xt; omega), t2, if_neg (show ¬ (76 : Int32) < nI l from nI_nlt (a := 76) c (by omega))]
      exact e2
    · rw [F2.1 7 0 1 (by unfold hx_yt; omega), hx_rd, if_pos ⟨rfl, rfl, rfl⟩]
    · rw [hx_rd, if_pos ⟨rfl, rfl, rfl⟩]
    · intro i hi
      rw [F2.1 13 0 i (by unfold hx_yt; omega), hx_rd, if_neg (by omega), hx_rd, if_neg (by omega)]
      by_cases z : i < l
      · rw [f1.1 13 0 i (by omega), f2.1 47 0 i (by omega), hx_rd, if_neg (by omega), F1.1 47 0 i (by unfold hx_xt; omega)]
        exact t3 i z
      · obtain ⟨x, hx, ex⟩ := hx_sbn v (i - l)
        have a1 := g1 (i - l) (by omega)
        have a2 := g2 (i - l) (by omega)
        rw [show l + (i - l) = i by omega] at a1 a2
        exact ⟨x, hx, by rw [a1, ex], by rw [a2, ex]⟩
  · apply hx_Anone h (v := -1)
    · rw [hq_H_sign, hq_Text_append, t1, if_neg (nI_pos (by omega)), if_pos (show (76 : Int32) < nI l from nI_lt (a := 76) (by omega) (by omega)), hq_Text_append_16, hx_rz0, hx_bI, if_pos rfl]
    · rw [hq_M_sign, t2, if_pos (show (76 : Int32) < nI l from nI_lt (a := 76) (by omega) (by omega))]
theorem hx_end (d : Nat) {n : Nat} {E : hx_Env} {t : hx_St} {μ : hs_M} (h : hx_I n E t μ) (x : Int32) : hx_A n μ (hc_H_end (d + 2) x) (hc_M_end (d + 2) x) := by
  obtain ⟨l, hl, t1, t2, t3⟩ := h.2.2.2.2.2.1
  have ec : ∀ A B : Option (Option hs_V × hs_M), (if x < 0 then A else if nI l < x then A else B) = if hx_rg 0 l x = true then B else A := fun A B => by
    rw [hx_if2, nI_toInt (by omega)]
    rfl
  have er : ∀ μ', hc_M_in (d + 1) x.toInt64 0 (nI l).toInt64 μ' = some (some (vI (hx_tn (hx_rg 0 l x))), μ') := fun μ' => by
    rw [hx_inR, Int32.toInt_toInt64, nI_toInt (by omega)]
    rfl
  by_cases c : hx_rg 0 l x = true
  · obtain ⟨k, hk, ex⟩ := hx_rgN c
    have F1 : hx_fr hx_xt μ (hs_wI μ 7 0 1 (nI k)) := hx_wr (hx_rf _ _) _ (by unfold hx_xt; omega)
    have F2 : hx_fr hx_yt (hs_wI μ 7 0 1 (nI k)) (hs_wI (hs_wI (hs_wI μ 7 0 1 (nI k)) 12 0 0 0) 12 0 13 (nI k)) := hx_wr (hx_wr (hx_rf _ _) _ (by unfold hx_yt; omega)) _ (by unfold hx_yt; omega)
    refine ⟨1, hs_wI μ 7 0 1 (nI k), hs_wI (hs_wI (hs_wI μ 7 0 1 (nI k)) 12 0 0 0) 12 0 13 (nI k), ?_, ?_, E, t, hx_It h F1 F2 ⟨k, by omega, ?_, ?_, ?_⟩⟩
    · rw [hq_H_end, t1, hq_H_end_15, ec, if_pos c, hx_rz1, ex]
    · rw [hq_M_end, F1.1 12 0 13 (by unfold hx_xt; omega), t2, er, hx_bI, hx_tn0, if_pos c, hx_rz1, ex]
    · rw [F2.1 7 0 1 (by unfold hx_yt; omega), hx_rd, if_pos ⟨rfl, rfl, rfl⟩]
    · rw [hx_rd, if_pos ⟨rfl, rfl, rfl⟩]
    · intro i hi
      rw [F2.1 13 0 i (by unfold hx_yt; omega), hx_rd, if_neg (by omega), hx_rd, if_neg (by omega), hx_rd, if_neg (by omega), hx_rd, if_neg (by omega)]
      exact t3 i (by omega)
  · apply hx_Anone h (v := 0)
    · rw [hq_H_end, t1, hq_H_end_15, ec, if_neg c, hx_rz0]
    · rw [hq_M_end, t2, er, hx_bI, hx_tn0, if_neg c, hx_rz0]
