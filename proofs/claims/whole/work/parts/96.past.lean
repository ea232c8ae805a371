/-! ===== E: undo, keep, again ===== -/
theorem hx_117 (s k : Nat) : (117 : Int32) * nI s + nI k = nI (117 * s + k) := by
  rw [show (117 : Int32) = nI 117 from rfl, pk_mul, nI_add]
theorem hx_m1n (p : Nat) (hp : p ≤ 8) : ¬ (-1 : Int32) = nI p := fun y => absurd (show (-1 : Int32) < 0 by decide) (by rw [y]; exact nI_pos (by omega))
theorem hx_nz20 : ∀ k, k < 21 → ¬ nI (k + 1) = 0 := by decide +kernel
theorem hx_undL (d : Nat) {s : Nat} (hs : s < 20) {v : hx_St} {μ0 : hs_M} (h5 : hx_SR μ0 55 (117 * s) v) (h28 : μ0.1 12 0 28 = nI s) : ∀ (m k : Nat) (μ : hs_M), k + m = 117 → hx_fr (fun κ _ _ => κ = 45) μ0 μ → (∀ i, i < k → μ.1 45 0 i = v i) → ∃ μ', he_M_undo_26 d (nI k) μ = some (some (vI (nI s)), μ') ∧ hx_fr (fun κ _ _ => κ = 45) μ0 μ' ∧ hx_SR μ' 45 0 v
  | 0, k, μ, hk, f, h => by
    rw [hq_M_undo_26, if_neg (show ¬ nI k < (117 : Int32) from nI_nlt (b := 117) (by omega) (by omega)), f.1 12 0 28 (by omega), h28]
    exact ⟨μ, rfl, f, hx_SRi (fun i hi => h i (by omega))⟩
  | m + 1, k, μ, hk, f, h => by
    rw [hq_M_undo_26, if_pos (show nI k < (117 : Int32) from nI_lt (b := 117) (by omega) (by omega)), f.1 12 0 28 (by omega), h28, hx_117, if_pos (hx_in (by omega) (by omega)), if_pos (hx_in (by omega) (by omega)), nI_clamp (show k < 2 ^ 31 by omega), nI_clamp (show 117 * s + k < 2 ^ 31 by omega), nI_1, f.1 55 0 _ (by omega), h5 k (by omega)]
    apply hx_undL d hs h5 h28 m (k + 1) _ (by omega) (hx_wr f _ rfl)
    intro i hi
    rw [hx_rd]
    by_cases c : i = k
    · rw [if_pos ⟨rfl, c, rfl⟩, c]
    · rw [if_neg (by omega), h i (by omega)]
theorem hx_undo (d : Nat) {n : Nat} {E : hx_Env} {t : hx_St} {μ : hs_M} (h : hx_I n E t μ) : hx_A n μ (hc_H_undo (d + 4)) (hc_M_undo (d + 4)) := by
  obtain ⟨s, f, u, hs, hf, e4, e3, e28, hu⟩ := h.2.2.2.2.2.2.2.1
  by_cases c : s = 0
  · apply hx_Anone h (v := -1)
    · rw [hq_H_undo, hq_Past_stepBack, e4, if_pos (show nI s < (1 : Int32) by rw [c]; decide), hx_rz0, hx_bI, if_pos rfl]
    · rw [hq_M_undo, e28, if_pos (show nI s = 0 by rw [c]; rfl)]
  obtain ⟨s, rfl⟩ : ∃ k, s = k + 1 := ⟨s - 1, by omega⟩
  have hm := Nat.mod_lt (f + s) (show 20 > 0 by omega)
  have fa : hx_fr (fun κ b i => (κ = 3 ∧ i = 4) ∨ (b = 0 ∧ (κ = 6 ∨ (24 ≤ κ ∧ κ ≤ 29)))) μ (hs_wI μ 3 0 4 (nI s)) := hx_wr (hx_rf _ _) _ (Or.inl ⟨rfl, rfl⟩)
  have ha : hx_SF (hs_wI μ 3 0 4 (nI s)) (1 + (f + s) % 20) (u s) := hx_SFf fa (by intro κ i a b; omega) (hu s (by omega)).1
  obtain ⟨μ1, e1, f1, s1⟩ := hx_copy d ha (show (0 : Nat) ≠ 1 + (f + s) % 20 by omega)
  have g1 := hx_tr fa (hx_mo (fun _ _ _ x => Or.inr x) f1)
  have f2a : hx_fr (fun κ _ i => κ = 45 ∨ (κ = 12 ∧ (i = 0 ∨ i = 28))) μ1 (hs_wI (hs_wI μ1 12 0 0 0) 12 0 28 (nI s)) := hx_wr (hx_wr (hx_rf _ _) _ (by omega)) _ (by omega)
  have h5 : hx_SR (hs_wI (hs_wI μ1 12 0 0 0) 12 0 28 (nI s)) 55 (117 * s) (u s) := hx_SRf f2a (by intro i a b; omega) (hx_SRf g1 (by intro i a b; omega) (hu s (by omega)).2.1)
  obtain ⟨μ2, e2, f2, s2⟩ := hx_undL (d + 3) (by omega) h5 (by rw [hx_rd, if_pos ⟨rfl, rfl, rfl⟩]) 117 0 _ (by omega) (hx_rf _ _) (fun i hi => absurd hi (by omega))
  have g2 := hx_tr f2a (hx_mo (fun _ _ _ x => Or.inl x) f2)
  refine hx_Amk (v := nI s) (μ1 := μ1) (μ2 := μ2) (E := E) (t := u s) ?_ ?_ ?_
  · rw [hq_H_undo, hq_Past_stepBack, e4, if_neg (show ¬ nI (s + 1) < (1 : Int32) from nI_nlt (b := 1) (by omega) (by omega)), e3, nI_pred, nI_add, show (20 : Int32) = nI 20 from rfl, hx_fm _ (by omega) (by omega) (by omega), hx_bI, if_pos (hx_in hm (by omega)), nI_clamp (by omega), e1, hx_bV, hx_rz1, hx_bI, if_neg (show ¬ (1 : Int32) = 0 by decide), f1.1 3 0 4 (by omega), hx_rd, if_pos ⟨rfl, rfl, rfl⟩]
  · rw [hq_M_undo, g1.1 12 0 28 (by omega), e28, if_neg (hx_nz20 s (by omega)), nI_pred]
    exact e2
  · refine hx_Ist h g1 g2 (fun κ j i x => by unfold hx_zX; omega) (fun κ j i x => by unfold hx_zY hx_qY hx_qR; omega) (hx_SFf g2 (by intro κ i a b; omega) s1) s2 (hx_twm (hu s (by omega)).2.2 (by omega)) ((hx_Ix h g1 g2).2.2.2.2.2.2.1 (by intros; omega)) ⟨s, f, u, by omega, hf, ?_, ?_, ?_, fun k hk => ⟨hx_SFf g2 (by intro κ i a b; omega) (hx_SFf g1 (by intro κ i a b; omega) (hu k (by omega)).1), hx_SRf g2 (by intro i a b; omega) (hx_SRf g1 (by intro i a b; omega) (hu k (by omega)).2.1), hx_twm (hu k (by omega)).2.2 (by omega)⟩⟩
    · rw [g2.1 3 0 4 (by omega), f1.1 3 0 4 (by omega), hx_rd, if_pos ⟨rfl, rfl, rfl⟩]
    · rw [g2.1 3 0 3 (by omega), g1.1 3 0 3 (by omega), e3]
    · rw [f2.1 12 0 28 (by omega), hx_rd, if_pos ⟨rfl, rfl, rfl⟩]
theorem hx_kepL (d : Nat) {q : Nat} (hq : q < 3) {t : hx_St} {μ0 : hs_M} (hs : hx_SR μ0 45 0 t) : ∀ (m k : Nat) (μ : hs_M), k + m = 117 → hx_fr (fun κ _ i => κ = 68 ∧ 117 * q ≤ i ∧ i < 117 * q + 117) μ0 μ → (∀ i, i < k → μ.1 68 0 (117 * q + i) = t i) → ∃ μ', he_M_keep_38 d (nI q) (nI k) μ = some (some (vI 1), μ') ∧ hx_fr (fun κ _ i => κ = 68 ∧ 117 * q ≤ i ∧ i < 117 * q + 117) μ0 μ' ∧ hx_SR μ' 68 (117 * q) t
  | 0, k, μ, hk, f, h => by
    rw [hq_M_keep_38, if_neg (show ¬ nI k < (117 : Int32) from nI_nlt (b := 117) (by omega) (by omega)), hx_rz1]
    exact ⟨μ, rfl, f, fun i hi => h i (by omega)⟩
  | m + 1, k, μ, hk, f, h => by
    rw [hq_M_keep_38, if_pos (show nI k < (117 : Int32) from nI_lt (b := 117) (by omega) (by omega)), hx_117, if_pos (hx_in (by omega) (by omega)), if_pos (hx_in (by omega) (by omega)), nI_clamp (show k < 2 ^ 31 by omega), nI_clamp (show 117 * q + k < 2 ^ 31 by omega), nI_1, f.1 45 0 _ (by omega), hx_SR0 hs (by omega)]
    apply hx_kepL d hq hs m (k + 1) _ (by omega) (hx_wr f _ (by omega))
    intro i hi
    rw [hx_rd]
    by_cases c : i = k
    · rw [if_pos ⟨rfl, by rw [c], rfl⟩, c]
    · rw [if_neg (by omega), h i (by omega)]
theorem hx_agaL (d : Nat) {q : Nat} (hq : q < 3) {v : hx_St} {μ0 : hs_M} (h5 : hx_SR μ0 68 (117 * q) v) : ∀ (m k : Nat) (μ : hs_M), k + m = 117 → hx_fr (fun κ _ _ => κ = 45) μ0 μ → (∀ i, i < k → μ.1 45 0 i = v i) → ∃ μ', he_M_again_43 d (nI q) (nI k) μ = some (some (vI 1), hs_wI μ' 12 0 28 0) ∧ hx_fr (fun κ _ _ => κ = 45) μ0 μ' ∧ hx_SR μ' 45 0 v
  | 0, k, μ, hk, f, h => by
    rw [hq_M_again_43, if_neg (show ¬ nI k < (117 : Int32) from nI_nlt (b := 117) (by omega) (by omega)), hx_rz1]
    exact ⟨μ, rfl, f, hx_SRi (fun i hi => h i (by omega))⟩
  | m + 1, k, μ, hk, f, h => by
    rw [hq_M_again_43, if_pos (show nI k < (117 : Int32) from nI_lt (b := 117) (by omega) (by omega)), hx_117, if_pos (hx_in (by omega) (by omega)), if_pos (hx_in (by omega) (by omega)), nI_clamp (show k < 2 ^ 31 by omega), nI_clamp (show 117 * q + k < 2 ^ 31 by omega), nI_1, f.1 68 0 _ (by omega), h5 k (by omega)]
    apply hx_agaL d hq h5 m (k + 1) _ (by omega) (hx_wr f _ rfl)
    intro i hi
    rw [hx_rd]
    by_cases c : i = k
    · rw [if_pos ⟨rfl, c, rfl⟩, c]
    · rw [if_neg (by omega), h i (by omega)]
theorem hx_keep (d : Nat) {n : Nat} {E : hx_Env} {t : hx_St} {μ : hs_M} (h : hx_I n E t μ) (x : Int32) : hx_A n μ (hc_H_keep (d + 4) x) (hc_M_keep (d + 4) x) := by
  have e0 : (0 : Int32).toInt = 0 := by decide
  have e3 : (3 : Int32).toInt = 3 := by decide
  have er : hx_rg (Int64.toInt 0) (Int64.toInt 2) x = hx_rg 0 2 x := rfl
  have h8 := h.1.1.1
  by_cases c : hx_rg 0 2 x = true
  rotate_left
  · have c' : ¬ (0 ≤ x.toInt ∧ x.toInt ≤ 2) := fun z => c (decide_eq_true z)
    apply hx_Anone h (v := 0)
    · rw [hq_H_keep, hq_Past_keepAside, hq_Past_keepAside_9, hx_rz0]
      by_cases z : x < 0
      · rw [if_pos z, hx_bI, hx_rz0]
      · rw [if_neg z, if_neg (show ¬ x < 3 by rw [hx_li] at *; omega), hx_bI, hx_rz0]
    · rw [hq_M_keep, hx_inR, hx_bI, hx_tn0, er, if_neg c, hx_rz0]
  obtain ⟨q, hq, ex⟩ := hx_rgN (n := 2) c
  obtain ⟨μa, e1, f1, s1⟩ := hx_copy d h.2.2.1 (show 21 + q ≠ 0 by omega)
  have g1 : hx_fr (fun κ b i => (κ = 32 ∧ i = q) ∨ (b = 21 + q ∧ (κ = 6 ∨ (24 ≤ κ ∧ κ ≤ 29)))) μ (hs_wI μa 32 0 q (nI (hx_P E))) := hx_wr (hx_mo (fun _ _ _ x => Or.inr x) f1) _ (Or.inl ⟨rfl, rfl⟩)
  have hE1 : hx_ER (hs_wI μa 32 0 q (nI (hx_P E))) E := hx_ERf g1 (by intro κ i a b; unfold hx_rF at a; omega) h.2.1
  have f2a : hx_fr (fun κ _ i => (κ = 12 ∧ i = 0) ∨ ((κ = 66 ∨ κ = 67) ∧ i = q) ∨ (κ = 68 ∧ 117 * q ≤ i ∧ i < 117 * q + 117)) (hs_wI μa 32 0 q (nI (hx_P E))) (hs_wI (hs_wI (hs_wI (hs_wI μa 32 0 q (nI (hx_P E))) 12 0 0 0) 66 0 q 1) 67 0 q (nI (hx_P E))) := hx_wr (hx_wr (hx_wr (hx_rf _ _) _ (by omega)) _ (by omega)) _ (by omega)
  have hR := hx_SRf f2a (by intro i a b; omega) (hx_SRf g1 (by intro i a b; omega) h.2.2.2.1)
  obtain ⟨μ2, e2, f2, s2⟩ := hx_kepL (d + 3) (q := q) (by omega) hR 117 0 _ (by omega) (hx_rf _ _) (fun i hi => absurd hi (by omega))
  have g2 := hx_tr f2a (hx_mo (fun _ _ _ x => Or.inr (Or.inr x)) f2)
  refine hx_Amk (v := 1) (μ1 := hs_wI μa 32 0 q (nI (hx_P E))) (μ2 := μ2) (E := E) (t := t) ?_ ?_ ?_
  · rw [hq_H_keep, hq_Past_keepAside, ex, if_neg (nI_pos (by omega)), if_pos (show nI q < (3 : Int32) from nI_lt (b := 3) (by omega) (by omega)), if_pos (hx_in (by omega) (by omega)), nI_clamp (by omega), h.1.2.1, e1, hx_bV, if_pos (hx_in (by omega) (by omega)), hx_rz1, hx_bI, hx_rz1]
  · rw [hq_M_keep, hx_inR, hx_bI, hx_tn0, er, if_pos c, ex, if_pos (hx_in (by omega) (by omega)), if_pos (hx_in (by omega) (by omega)), nI_clamp (by omega), hx_rd, if_neg (by omega), hE1.2.1, show (1 : Int32) &&& 1 = 1 by decide]
    exact e2
  · obtain ⟨a, b, cc, e, g, h1, h2, h3, _, h5, h6⟩ := hx_Ix h g1 g2
    refine ⟨a ?_, b ?_, cc ?_, e ?_, g, h1 ?_, h2 ?_, h3 ?_, ?_, h5 ?_, h6 ?_⟩
    rotate_left 7
    · intro i hi
      by_cases ci : i = q
      · refine Or.inr ⟨?_, hx_P E, t, Nat.le_refl _, ?_, ?_, ?_, ?_, g⟩
        · rw [ci, f2.1 66 0 q (by omega), hx_rd, if_neg (by omega), hx_rd, if_pos ⟨rfl, rfl, rfl⟩]
        · rw [ci, g2.1 32 0 q (by omega), hx_rd, if_pos ⟨rfl, rfl, rfl⟩]
        · rw [ci, f2.1 67 0 q (by omega), hx_rd, if_pos ⟨rfl, rfl, rfl⟩]
        · rw [ci]
          exact hx_SFf g2 (by intro κ i a b; omega) (hx_SFf (X := fun κ _ _ => κ = 32) (hx_wr (hx_rf _ _) _ rfl) (by intro κ i a b; omega) s1)
        · rw [ci]
          exact s2
      · have r : ∀ κ, (κ = 32 ∨ κ = 66 ∨ κ = 67) → μ2.1 κ 0 i = μ.1 κ 0 i := fun κ hκ => by rw [g2.1 κ 0 i (by omega), g1.1 κ 0 i (by omega)]
        rw [r 66 (by omega), r 32 (by omega), r 67 (by omega)]
        rcases h.2.2.2.2.2.2.2.2.1 i hi with z | ⟨z, q', v, b1, b2, b3, b4, b5, b6⟩
        · exact Or.inl z
        · exact Or.inr ⟨z, q', v, b1, b2, b3, hx_SFf g2 (by intro κ i a b; omega) (hx_SFf g1 (by intro κ i a b; omega) b4), hx_SRf g2 (by intro i a b; omega) (hx_SRf g1 (by intro i a b; omega) b5), hx_twm b6 (by omega)⟩
    all_goals (intros; simp only [hx_cF, hx_rF, hx_fP, hx_fK, hx_fW, hx_fD, hx_fT] at *; omega)
theorem hx_again (d : Nat) {n : Nat} {E : hx_Env} {t : hx_St} {μ : hs_M} (h : hx_I n E t μ) (x : Int32) : hx_A n μ (hc_H_again (d + 4) x) (hc_M_again (d + 4) x) := by
  have e0 : (0 : Int32).toInt = 0 := by decide
  have e3 : (3 : Int32).toInt = 3 := by decide
  have er : hx_rg (Int64.toInt 0) (Int64.toInt 2) x = hx_rg 0 2 x := rfl
  have h8 := h.1.1.1
  have h0 := hx_I0 (hx_Ia h)
  by_cases c : hx_rg 0 2 x = true
  rotate_left
  · have c' : ¬ (0 ≤ x.toInt ∧ x.toInt ≤ 2) := fun z => c (decide_eq_true z)
    apply hx_Anone h (v := 0)
    · rw [hq_H_again, hq_Past_takeAgain, hq_Past_takeAgain_19, hx_rz0]
      by_cases z : x < 0
      · rw [if_pos z, hx_bI, hx_rz0]
      · rw [if_neg z, if_neg (show ¬ x < 3 by rw [hx_li] at *; omega), hx_bI, hx_rz0]
    · rw [hq_M_again, hx_inR, hx_bI, hx_tn0, er, if_neg c, hq_M_again_39, hx_rz0]
  obtain ⟨q, hq, ex⟩ := hx_rgN (n := 2) c
  have eC : ∀ r, hc_Past_takeAgain (d + 3) (nI q) 0 (nI (hx_P E)) μ = r → hc_H_again (d + 4) x μ = hs_bI r (fun r1 μ1 => hs_rz r1 μ1) := fun r hr => by
    rw [hq_H_again, h.1.2.1, ex, hr]
  have eM : ∀ μ1, hc_M_again (d + 4) x μ1 = (if μ1.1 66 0 q = 0 then some (some (vI 0), hs_wI μ1 12 0 0 0) else if μ1.1 67 0 q = μ1.1 12 0 3 then he_M_again_43 (d + 3) (nI q) 0 (hs_wI μ1 12 0 0 0) else some (some (vI 0), hs_wI μ1 12 0 0 0)) := fun μ1 => by
    have rdn : ∀ κ i, κ ≠ 12 ∨ i ≠ 0 → (hs_wI μ1 12 0 0 0).1 κ 0 i = μ1.1 κ 0 i := fun κ i h => by rw [hx_rd, if_neg (by omega)]
    rw [hq_M_again, hx_inR, hx_bI, hx_tn0, er, if_pos c, ex, if_pos (hx_in (by omega) (by omega)), nI_clamp (by omega), if_pos (hx_in (by omega) (by omega)), hq_M_again_39, hx_rz0, rdn 66 q (by omega), rdn 67 q (by omega), rdn 12 3 (by omega)]
  have hno : ¬ μ.1 32 0 q = nI (hx_P E) → (μ.1 66 0 q = 0 ∨ ¬ μ.1 67 0 q = nI (hx_P E)) → hx_A n μ (hc_H_again (d + 4) x) (hc_M_again (d + 4) x) := fun z1 z2 => by
    apply hx_Anone h (v := 0)
    · rw [eC _ rfl, hq_Past_takeAgain, if_neg (nI_pos (by omega)), if_pos (show nI q < (3 : Int32) from nI_lt (b := 3) (by omega) (by omega)), if_pos (hx_in (by omega) (by omega)), nI_clamp (by omega), if_neg z1, hq_Past_takeAgain_19, hx_rz0, hx_bI, hx_rz0]
    · rw [eM, h.2.1.2.1]
      by_cases z : μ.1 66 0 q = 0
      · rw [if_pos z]
      · rw [if_neg z, if_neg (z2.resolve_left z)]
  rcases h.2.2.2.2.2.2.2.2.1 q (by omega) with ⟨z1, z2⟩ | ⟨z, q', v, b1, b2, b3, b4, b5, b6⟩
  · refine hno ?_ (Or.inl z1)
    rw [z2]
    intro y
    exact (hx_m1n (hx_P E) (by omega)) y
  by_cases cq : q' = hx_P E
  rotate_left
  · have ne : ¬ nI q' = nI (hx_P E) := fun y => cq (by
      have y2 := congrArg Int32.toNatClampNeg y
      rw [nI_clamp (by omega), nI_clamp (by omega)] at y2
      exact y2)
    exact hno (by rw [b2]; exact ne) (Or.inr (by rw [b3]; exact ne))
  rw [cq] at b2 b3 b6
  obtain ⟨μa, e1, f1, s1⟩ := hx_copy d b4 (show (0 : Nat) ≠ 21 + q by omega)
  have g1 : hx_fr (fun κ b i => (κ = 3 ∧ i = 4) ∨ (b = 0 ∧ (κ = 6 ∨ (24 ≤ κ ∧ κ ≤ 29)))) μ (hs_wI μa 3 0 4 0) := hx_wr (hx_mo (fun _ _ _ x => Or.inr x) f1) _ (Or.inl ⟨rfl, rfl⟩)
  have hE1 : hx_ER (hs_wI μa 3 0 4 0) E := hx_ERf g1 (by intro κ i a b; unfold hx_rF at a; omega) h.2.1
  have f2a : hx_fr (fun κ _ i => κ = 45 ∨ (κ = 12 ∧ (i = 0 ∨ i = 28))) (hs_wI μa 3 0 4 0) (hs_wI (hs_wI μa 3 0 4 0) 12 0 0 0) := hx_wr (hx_rf _ _) _ (by omega)
  have h5 := hx_SRf f2a (by intro i a b; omega) (hx_SRf g1 (by intro i a b; omega) b5)
  obtain ⟨μb, e2, f2, s2⟩ := hx_agaL (d + 3) (q := q) (by omega) h5 117 0 _ (by omega) (hx_rf _ _) (fun i hi => absurd hi (by omega))
  have g2 : hx_fr (fun κ _ i => κ = 45 ∨ (κ = 12 ∧ (i = 0 ∨ i = 28))) (hs_wI μa 3 0 4 0) (hs_wI μb 12 0 28 0) := hx_wr (hx_tr f2a (hx_mo (fun _ _ _ x => Or.inl x) f2)) _ (by omega)
  obtain ⟨s, f, u, hs, hf, e4, e3', e28, hu⟩ := h.2.2.2.2.2.2.2.1
  refine hx_Amk (v := 1) (μ1 := hs_wI μa 3 0 4 0) (μ2 := hs_wI μb 12 0 28 0) (E := E) (t := v) ?_ ?_ ?_
  · rw [eC _ rfl, hq_Past_takeAgain, if_neg (nI_pos (by omega)), if_pos (show nI q < (3 : Int32) from nI_lt (b := 3) (by omega) (by omega)), if_pos (hx_in (by omega) (by omega)), nI_clamp (by omega), if_pos b2, if_pos (hx_in (by omega) (by omega)), e1, hx_bV, hq_Past_forgetSteps, hx_bV, hx_rz1, hx_bI, hx_rz1]
  · rw [eM, g1.1 66 0 q (by omega), z, if_neg (show ¬ (1 : Int32) = 0 by decide), g1.1 67 0 q (by omega), b3, hE1.2.1, if_pos rfl]
    exact e2
  · refine hx_Ist h g1 g2 (fun κ j i x => by unfold hx_zX; omega) (fun κ j i x => by unfold hx_zY hx_qY hx_qR; omega) (hx_SFf g2 (by intro κ i a b; omega) (hx_SFf (X := fun κ _ _ => κ = 3) (hx_wr (hx_rf _ _) _ rfl) (by intro κ i a b; omega) s1)) (hx_SRf (X := fun κ _ _ => κ = 12) (hx_wr (hx_rf _ _) _ rfl) (by intro i a b; omega) s2) (hx_twm b6 (by omega)) ((hx_Ix h g1 g2).2.2.2.2.2.2.1 (by intros; omega)) ⟨0, f, u, by omega, hf, ?_, ?_, ?_, fun k hk => absurd hk (by omega)⟩
    · rw [g2.1 3 0 4 (by omega), hx_rd, if_pos ⟨rfl, rfl, rfl⟩]
      rfl
    · rw [g2.1 3 0 3 (by omega), g1.1 3 0 3 (by omega), e3']
    · rw [hx_rd, if_pos ⟨rfl, rfl, rfl⟩]
      rfl
