/-! ===== E: sheet ===== -/
def hx_kd (x v : Int32) : Int32 := if x = 0 then v.toInt8.toInt32 else if x = 1 then v.toInt16.toInt32 else v
def hx_enV (x n f s : Int32) (p : Nat) : Int32 := hx_ic (if nI p < n then hx_kd x (f + nI p * s) else 1)
def hx_she (t : hx_St) (g : Nat → Int32) : Nat → hx_St
  | 0 => t
  | k + 1 => hx_pw (hx_she t g k) k (g k)
def hx_shs (g : Nat → Int32) : Nat → Int32
  | 0 => 0
  | k + 1 => hx_shs g k + g k
theorem hx_sheS (t : hx_St) (g : Nat → Int32) (k : Nat) : hx_she t g (k + 1) = hx_pw (hx_she t g k) k (g k) := rfl
theorem hx_shsS (g : Nat → Int32) (k : Nat) : hx_shs g (k + 1) = hx_shs g k + g k := rfl
theorem hx_asK (d : Nat) (x v : Int32) (μ : hs_M) : hc_H_asKind (d + 1) x v μ = some (some (vI (hx_kd x v)), μ) := by
  rw [hq_H_asKind]
  unfold hx_kd
  by_cases c : x = 0
  · rw [if_pos c, if_pos c]
  · rw [if_neg c, if_neg c]
    by_cases c1 : x = 1
    · rw [if_pos c1, if_pos c1]
    · rw [if_neg c1, if_neg c1]
theorem hx_putS (d : Nat) {p : Nat} (hp : p < 8) (x : Int32) (μ : hs_M) : hc_State_putWeight (d + 2) 0 (nI p) x μ = some (none, hs_wI μ 24 0 p (hx_ic x)) := by
  rw [hq_State_putWeight, if_neg (nI_pos (by omega)), if_pos (show nI p < (8 : Int32) from nI_lt (b := 8) (by omega) (by omega)), hx_inB, hx_bI, if_pos (hx_in hp (by omega)), nI_clamp (by omega), hq_State_putWeight_20]
theorem hx_shtw {P W : Nat} (h8 : P ≤ 8) {t : hx_St} (ht : hx_tw P W t) (x n f s : Int32) : ∀ k, k ≤ P → hx_tw P W (hx_she t (hx_enV x n f s) k)
  | 0, _ => ht
  | k + 1, hk => by
    rw [hx_sheS]
    obtain ⟨v, a, b, e⟩ := hx_icR (if nI k < n then hx_kd x (f + nI k * s) else 1)
    have e' : hx_enV x n f s k = nI v := e
    rw [e']
    exact hx_pwtw h8 (hx_shtw h8 ht x n f s k (by omega)) (by omega) a b
theorem hx_shC (d : Nat) {E : hx_Env} (h8 : hx_P E ≤ 8) (x n f s : Int32) {t : hx_St} : ∀ m k, k + m = hx_P E → ∀ μ, hx_EC μ E → hx_SF μ 0 (hx_she t (hx_enV x n f s) k) → ∃ μ', he_H_sheet_47 (d + 2) x f s n (hx_shs (hx_enV x n f s) k) (nI k) μ = some (some (vI (if x = 3 then -3 else hx_shs (hx_enV x n f s) (hx_P E))), μ') ∧ hx_fr (fun κ j _ => κ = 24 ∧ j = 0) μ μ' ∧ hx_SF μ' 0 (hx_she t (hx_enV x n f s) (hx_P E))
  | 0, k, hk, μ, hE, hs => by
    have ek : k = hx_P E := by omega
    rw [ek] at hs ⊢
    refine ⟨μ, ?_, hx_rf _ _, hs⟩
    rw [hq_H_sheet_47, hE.2.1, if_neg (nI_nlt (Nat.le_refl _) (by omega))]
    by_cases c : x = 3
    · rw [if_pos c, if_pos c]
    · rw [if_neg c, if_neg c]
  | m + 1, k, hk, μ, hE, hs => by
    have f1 : hx_fr (fun κ j _ => κ = 24 ∧ j = 0) μ (hs_wI μ 24 0 k (hx_enV x n f s k)) := hx_wr (hx_rf _ _) _ ⟨rfl, rfl⟩
    have hE1 := hx_ECf f1 (by intro κ i a b; unfold hx_cF at a; omega) hE
    have hs1 := hx_SFw hs (p := k) (by omega) (hx_enV x n f s k)
    rw [← hx_sheS] at hs1
    obtain ⟨μ', e, f2, r⟩ := hx_shC d h8 x n f s m (k + 1) (by omega) _ hE1 hs1
    refine ⟨μ', ?_, hx_tr f1 f2, r⟩
    have rd : (hs_wI μ 24 0 k (hx_enV x n f s k)).1 24 0 k = hx_enV x n f s k := by rw [hx_rd, if_pos ⟨rfl, rfl, rfl⟩]
    rw [hq_H_sheet_47, hE.2.1, if_pos (nI_lt (by omega) (by omega))]
    have ev : hx_enV x n f s k = hx_ic (if nI k < n then hx_kd x (f + nI k * s) else 1) := rfl
    by_cases c : nI k < n
    · rw [if_pos c] at ev
      rw [if_pos c, hx_asK, hx_bI, hx_putS _ (by omega), hx_bV, if_pos (hx_in (by omega) (by omega)), nI_clamp (by omega), ← ev, rd, ← hx_shsS, nI_1]
      exact e
    · rw [if_neg c] at ev
      rw [if_neg c, hx_putS _ (by omega), hx_bV, if_pos (hx_in (by omega) (by omega)), nI_clamp (by omega), ← ev, rd, ← hx_shsS, nI_1]
      exact e
theorem hx_shR (d : Nat) {E : hx_Env} (h8 : hx_P E ≤ 8) (x n n' f s : Int32) (hn' : n' = if x = 3 then 0 else n) {t : hx_St} : ∀ m k, k + m = hx_P E → ∀ μ, hx_ER μ E → hx_SR μ 45 0 (hx_she t (hx_enV x n' f s) k) → ∃ μ', he_M_sheet_46 (d + 1) x n s (hx_shs (hx_enV x n' f s) k) (f + nI k * s) (nI k) μ = some (some (vI (if x = 3 then -3 else hx_shs (hx_enV x n' f s) (hx_P E))), μ') ∧ hx_fr (fun κ _ _ => κ = 45) μ μ' ∧ hx_SR μ' 45 0 (hx_she t (hx_enV x n' f s) (hx_P E))
  | 0, k, hk, μ, hE, hs => by
    have ek : k = hx_P E := by omega
    rw [ek] at hs ⊢
    refine ⟨μ, ?_, hx_rf _ _, hs⟩
    rw [hq_M_sheet_46, hE.2.1, if_neg (nI_nlt (Nat.le_refl _) (by omega))]
    by_cases c : x = 3
    · rw [if_pos c, if_pos c]
    · rw [if_neg c, if_neg c]
  | m + 1, k, hk, μ, hE, hs => by
    have hg : ∀ g, g = hx_enV x n' f s → hx_SR μ 45 0 (hx_she t g k) → ∃ μ', he_M_sheet_46 (d + 1) x n s (hx_shs g (k + 1)) (f + nI k * s + s) (nI k + 1) (hs_wI μ 45 0 k (g k)) = some (some (vI (if x = 3 then -3 else hx_shs g (hx_P E))), μ') ∧ hx_fr (fun κ _ _ => κ = 45) μ μ' ∧ hx_SR μ' 45 0 (hx_she t g (hx_P E)) := fun g hg hs => by
      have f1 : hx_fr (fun κ _ _ => κ = 45) μ (hs_wI μ 45 0 k (g k)) := hx_wr (hx_rf _ _) _ rfl
      have hE1 := hx_ERf f1 (by intro κ i a b; unfold hx_rF at a; omega) hE
      have hs1 : hx_SR (hs_wI μ 45 0 k (g k)) 45 0 (hx_she t g (k + 1)) := hx_SRw hs (if_pos rfl) (fun i _ z => if_neg z)
      rw [hg] at hs1 hE1 f1 ⊢
      obtain ⟨μ', e, f2, r⟩ := hx_shR d h8 x n n' f s hn' m (k + 1) (by omega) _ hE1 hs1
      refine ⟨μ', ?_, hx_tr f1 f2, r⟩
      have ea : f + nI k * s + s = f + nI (k + 1) * s := by
        rw [← nI_1 k, Int32.add_mul, Int32.one_mul, Int32.add_assoc]
      rw [ea, nI_1]
      exact e
    have rd : ∀ v, (hs_wI μ 45 0 k v).1 45 0 k = v := fun v => by rw [hx_rd, if_pos ⟨rfl, rfl, rfl⟩]
    obtain ⟨μ', e, r⟩ := hg _ rfl hs
    refine ⟨μ', ?_, r⟩
    rw [hx_shsS] at e
    rw [hq_M_sheet_46, hE.2.1, if_pos (nI_lt (by omega) (by omega))]
    have ev : hx_enV x n' f s k = hx_ic (if nI k < n' then hx_kd x (f + nI k * s) else 1) := rfl
    have ic1 : hx_ic 1 = 1 := by decide
    by_cases c3 : x = 3
    · have x0 : ¬ x = 0 := by rw [c3]; decide
      have x1 : ¬ x = 1 := by rw [c3]; decide
      have ev1 : hx_enV x n' f s k = 1 := by rw [ev, hn', if_pos c3, if_neg (nI_pos (by omega)), ic1]
      rw [ev1] at e
      rw [if_neg x0, if_neg x1, if_pos c3, if_pos (hx_in (by omega) (by omega)), if_pos (hx_in (by omega) (by omega)), nI_clamp (by omega), rd]
      exact e
    have hn2 : n' = n := by rw [hn', if_neg c3]
    by_cases c : nI k < n
    · rw [if_pos (show nI k < n' by rw [hn2]; exact c)] at ev
      unfold hx_kd at ev
      by_cases x0 : x = 0
      · rw [if_pos x0] at ev
        rw [ev] at e
        rw [if_pos x0, if_neg c3, if_pos c, hx_min, hx_bI, hx_max, hx_bI, hx_mm, if_pos (hx_in (by omega) (by omega)), if_pos (hx_in (by omega) (by omega)), nI_clamp (by omega), rd]
        exact e
      by_cases x1 : x = 1
      · rw [if_neg x0, if_pos x1] at ev
        rw [ev] at e
        rw [if_neg x0, if_pos x1, if_neg c3, if_pos c, hx_min, hx_bI, hx_max, hx_bI, hx_mm, if_pos (hx_in (by omega) (by omega)), if_pos (hx_in (by omega) (by omega)), nI_clamp (by omega), rd]
        exact e
      · rw [if_neg x0, if_neg x1] at ev
        rw [ev] at e
        rw [if_neg x0, if_neg x1, if_neg c3, if_pos c, hx_min, hx_bI, hx_max, hx_bI, hx_mm, if_pos (hx_in (by omega) (by omega)), if_pos (hx_in (by omega) (by omega)), nI_clamp (by omega), rd]
        exact e
    · rw [if_neg (show ¬ nI k < n' by rw [hn2]; exact c), ic1] at ev
      rw [ev] at e
      by_cases x0 : x = 0
      · rw [if_pos x0, if_neg c3, if_neg c, if_pos (hx_in (by omega) (by omega)), if_pos (hx_in (by omega) (by omega)), nI_clamp (by omega), rd]
        exact e
      by_cases x1 : x = 1
      · rw [if_neg x0, if_pos x1, if_neg c3, if_neg c, if_pos (hx_in (by omega) (by omega)), if_pos (hx_in (by omega) (by omega)), nI_clamp (by omega), rd]
        exact e
      · rw [if_neg x0, if_neg x1, if_neg c3, if_neg c, if_pos (hx_in (by omega) (by omega)), if_pos (hx_in (by omega) (by omega)), nI_clamp (by omega), rd]
        exact e
theorem hx_sheet (d : Nat) {n : Nat} {E : hx_Env} {t : hx_St} {μ : hs_M} (h : hx_I n E t μ) (x m f s : Int32) : hx_A n μ (hc_H_sheet (d + 3) x m f s) (hc_M_sheet (d + 3) x m f s) := by
  have h8 := h.1.1.1
  have h0 := hx_I0 (hx_Ia h)
  have ec : ∀ A B : Option (Option hs_V × hs_M), (if x < 0 then A else if 3 < x then A else B) = if hx_rg 0 3 x = true then B else A := fun A B => hx_if2 x 0 3 A B
  have er3 : hx_rg (Int64.toInt 0) (Int64.toInt 3) x = hx_rg 0 3 x := rfl
  by_cases c : hx_rg 0 3 x = true
  rotate_left
  · exact hx_Anone h (v := -1) (by rw [hq_H_sheet, ec, if_neg c, hq_H_sheet_15]) (by rw [hq_M_sheet, hx_inR, hx_bI, hx_tn0, er3, if_neg c, hq_M_sheet_23])
  by_cases c8 : 8 < m
  · exact hx_Anone h (v := -1) (by rw [hq_H_sheet, ec, if_pos c, if_pos c8, hq_H_sheet_15]) (by rw [hq_M_sheet, hx_inR, hx_bI, hx_tn0, er3, if_pos c, if_pos c8, hq_M_sheet_23])
  have key : ¬ (¬ x = 3 ∧ m < 0) → hx_A n μ (hc_H_sheet (d + 3) x m f s) (hc_M_sheet (d + 3) x m f s) := fun z => by
    obtain ⟨μ1, e1, f1, s1⟩ := hx_shC d h8 x (if x = 3 then 0 else m) f s (t := t) (hx_P E) 0 (by omega) μ h.1 h.2.2.1
    have g1 : hx_fr (fun κ j i => (κ = 24 ∧ j = 0) ∨ (κ = 12 ∧ i = 0)) μ (hs_wI μ1 12 0 0 0) := hx_wr (hx_mo (fun _ _ _ x => Or.inl x) f1) _ (by omega)
    have hE1 := hx_ERf g1 (by intro κ i a b; unfold hx_rF at a; omega) h.2.1
    have hR1 := hx_SRf g1 (by intro i a b; omega) h.2.2.2.1
    obtain ⟨μ2, e2, f2, s2⟩ := hx_shR (d + 1) h8 x m (if x = 3 then 0 else m) f s rfl (t := t) (hx_P E) 0 (by omega) _ hE1 hR1
    have e0 : f + nI 0 * s = f := by
      rw [show nI 0 = 0 from rfl, Int32.zero_mul, Int32.add_zero]
    rw [e0] at e2
    refine hx_Amk (E := E) (t := hx_she t (hx_enV x (if x = 3 then 0 else m) f s) (hx_P E)) (v := if x = 3 then -3 else hx_shs (hx_enV x (if x = 3 then 0 else m) f s) (hx_P E)) (μ1 := μ1) (μ2 := μ2) ?_ ?_ ?_
    · have e29 : he_H_sheet_29 (d + 2) x m f s μ = some (some (vI (if x = 3 then -3 else hx_shs (hx_enV x (if x = 3 then 0 else m) f s) (hx_P E))), μ1) := by
        rw [hq_H_sheet_29, ← e1]
        by_cases q : x = 3
        · rw [if_pos q, if_pos q]; rfl
        · rw [if_neg q, if_neg q]; rfl
      rw [hq_H_sheet, ec, if_pos c, if_neg c8, e29]
      by_cases q : x = 3
      · rw [if_pos q, if_pos q]
      · rw [if_neg q, if_neg q, if_neg (fun y => z ⟨q, y⟩)]
    · have e37 : he_M_sheet_37 (d + 2) x m f s (hs_wI μ1 12 0 0 0) = some (some (vI (if x = 3 then -3 else hx_shs (hx_enV x (if x = 3 then 0 else m) f s) (hx_P E))), μ2) := by
        rw [hq_M_sheet_37]
        exact e2
      rw [hq_M_sheet, hx_inR, hx_bI, hx_tn0, er3, if_pos c, if_neg c8, e37]
      by_cases q : x = 3
      · rw [if_pos q, if_pos q]
      · rw [if_neg q, if_neg q, if_neg (fun y => z ⟨q, y⟩)]
    · have f2' : hx_fr (fun κ _ i => κ = 45 ∨ (κ = 12 ∧ i = 0)) μ1 μ2 := hx_tr (hx_wr (hx_rf _ _) _ (by omega)) (hx_mo (fun _ _ _ x => Or.inl x) f2)
      refine hx_Is h f1 f2' (fun κ j i x => by omega) (fun κ j i x => x) (hx_SFf f2' (by intro κ i a b; omega) s1) s2 (hx_twm (hx_shtw h8 h.2.2.2.2.1 x _ f s _ (Nat.le_refl _)) (by omega))
  by_cases c3 : x = 3
  · exact key (fun z => z.1 c3)
  by_cases cm : m < 0
  · exact hx_Anone h (v := -2) (by rw [hq_H_sheet, ec, if_pos c, if_neg c8, if_neg c3, if_pos cm]) (by rw [hq_M_sheet, hx_inR, hx_bI, hx_tn0, er3, if_pos c, if_neg c8, if_neg c3, if_pos cm])
  · exact key (fun z => cm z.2)
