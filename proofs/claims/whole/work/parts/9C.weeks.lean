/-! ===== E: weeks ===== -/
noncomputable def hx_wW (E : hx_Env) (t : hx_St) (k : Nat) : Int32 := hx_win E (hx_by E 255 t k) (hx_sa E (hx_by E 255 t k) 0 255) (hx_P E)
noncomputable def hx_kc (E : hx_Env) (t : hx_St) : Nat → Int32
  | 0 => 0
  | k + 1 => if hx_wW E t k = -1 then hx_kc E t k else hx_kc E t k + 1
noncomputable def hx_kf (E : hx_Env) (t : hx_St) : Nat → Int32
  | 0 => 0
  | k + 1 => if hx_wW E t k = -1 then hx_kf E t k else hx_kf E t k + nI (hx_hold (hx_by E 255 t k))
theorem hx_kcS (E : hx_Env) (t : hx_St) (k : Nat) : hx_kc E t (k + 1) = if hx_wW E t k = -1 then hx_kc E t k else hx_kc E t k + 1 := rfl
theorem hx_kfS (E : hx_Env) (t : hx_St) (k : Nat) : hx_kf E t (k + 1) = if hx_wW E t k = -1 then hx_kf E t k else hx_kf E t k + nI (hx_hold (hx_by E 255 t k)) := rfl
theorem hx_wbP {E : hx_Env} (h8 : hx_P E ≤ 8) (s : hx_St) : ∀ p, p < hx_P E → bt (s 16) p = true → bt (hx_wb E s (hx_P E)) p = hx_sa E s 0 255 p := by
  intro p hp al
  rw [hx_wbt E s (by omega) _ (by omega)]
  unfold hx_sa
  rw [hx_nv0 h8 p hp, b_0, al, decide_eq_true hp]
  simp
theorem hx_holdle {P W : Nat} {t : hx_St} (ht : hx_tw P W t) : hx_hold t ≤ 12 := by
  obtain ⟨L, hL, e20, _⟩ := ht.2.2.1
  have z := hx_hcle (t := t) L
  unfold hx_hold
  rw [e20, nI_clamp (by omega)]
  omega
theorem hx_wkC (d : Nat) {E : hx_Env} (h8 : hx_P E ≤ 8) {W m : Nat} (hm : m ≤ 99) (hW : W + 99 < 2 ^ 30) {t : hx_St} (ht : ∀ k, k ≤ 99 → hx_tw (hx_P E) (W + k) (hx_by E 255 t k)) : ∀ (j k : Nat) (μ : hs_M), k + j = m → hx_EC μ E → hx_SF μ 0 (hx_by E 255 t k) → ∃ μ', he_H_weeks_34 (d + 5) (nI m) (hx_kc E t k) (hx_kf E t k) (nI k) μ = he_H_weeks_34 (d + 5) (nI m) (hx_kc E t m) (hx_kf E t m) (nI m) μ' ∧ hx_fr (hx_xS 0) μ μ' ∧ hx_SF μ' 0 (hx_by E 255 t m)
  | 0, k, μ, hk, hE, hs => by
    have e : k = m := hk
    rw [e] at hs ⊢
    exact ⟨μ, rfl, hx_rf _ _, hs⟩
  | j + 1, k, μ, hk, hE, hs => by
    obtain ⟨μ1, e1, f1, s1⟩ := hx_pwk d hE (by omega) (ht k (by omega)) hs 0 255
    obtain ⟨μ', e2, f2, s2⟩ := hx_wkC d h8 hm hW ht j (k + 1) μ1 (by omega) (hx_ECS f1 hE) s1
    refine ⟨μ', ?_, hx_tr f1 f2, s2⟩
    rw [← e2]
    conv => lhs; rw [hq_H_weeks_34]
    rw [if_pos (nI_lt (by omega) (by omega)), e1, hx_bI, hx_kcS, hx_kfS, ← nI_1]
    have hh := hx_holdle (ht k (by omega))
    have ew : hx_win E (hx_by E 255 t k) (hx_sa E (hx_by E 255 t k) 0 255) (hx_P E) = hx_wW E t k := rfl
    rw [ew]
    by_cases c : hx_wW E t k = -1
    · rw [if_pos c, if_pos c, if_pos c, if_pos rfl, hq_H_weeks_64]
    · rw [if_neg c, if_neg c, if_neg c, if_neg (show ¬ nI (hx_hold (hx_by E 255 t k)) = -1 from fun y => absurd (show (-1 : Int32) < 0 by decide) (by rw [← y]; exact nI_pos (by omega))), hq_H_weeks_64]
theorem hx_wkR (d : Nat) {E : hx_Env} (h8 : hx_P E ≤ 8) {W m : Nat} (hm : m ≤ 99) (hW : W + 99 < 2 ^ 30) {t : hx_St} (ht : ∀ k, k ≤ 99 → hx_tw (hx_P E) (W + k) (hx_by E 255 t k)) : ∀ (j k : Nat) (μ : hs_M), k + j = m → hx_ER μ E → hx_SR μ 45 0 (hx_by E 255 t k) → μ.1 12 0 27 = hx_kf E t k → ∃ μ', he_M_weeks_36 (d + 5) (nI m) (hx_kc E t k) (nI k) μ = he_M_weeks_36 (d + 5) (nI m) (hx_kc E t m) (nI m) μ' ∧ hx_fr (fun κ _ i => κ = 54 ∨ κ = 45 ∨ (κ = 12 ∧ i = 27)) μ μ' ∧ hx_SR μ' 45 0 (hx_by E 255 t m) ∧ μ'.1 12 0 27 = hx_kf E t m
  | 0, k, μ, hk, hE, hs, hf => by
    have e : k = m := hk
    rw [e] at hs hf ⊢
    exact ⟨μ, rfl, hx_rf _ _, hs, hf⟩
  | j + 1, k, μ, hk, hE, hs, hf => by
    obtain ⟨μa, e0, f0⟩ := hx_willing d (κ := 45) (Or.inl rfl) hE (ht k (by omega)) hs
    obtain ⟨μ1, e1, f1, s1, g1⟩ := hx_goes (d + 2) (κ := 45) (Or.inl rfl) (hx_ERV f0 hE) (by omega) (ht k (by omega)) (hx_SRV f0 (by omega) hs) (hx_wb E (hx_by E 255 t k) (hx_P E))
    rw [hx_stc (hx_wbP h8 _)] at s1
    rw [hx_wic (hx_wbP h8 _), f0.1 12 0 27 (by unfold hx_xV; omega), hf] at g1
    have s1' : hx_SR μ1 45 0 (hx_by E 255 t (k + 1)) := s1
    have ew : hx_win E (hx_by E 255 t k) (hx_sa E (hx_by E 255 t k) 0 255) (hx_P E) = hx_wW E t k := rfl
    rw [ew] at g1
    have g1' : μ1.1 12 0 27 = hx_kf E t (k + 1) := by
      rw [g1, hx_kfS]
      by_cases c : hx_wW E t k = -1
      · rw [if_pos c, if_pos c, Int32.add_zero]
      · rw [if_neg c, if_neg c]
    have ff : hx_fr (fun κ _ i => κ = 54 ∨ κ = 45 ∨ (κ = 12 ∧ i = 27)) μ μ1 := hx_tr (hx_mo (fun _ _ _ z => Or.inl z) f0) (hx_mo (fun κ b i z => by unfold hx_xG at z; omega) f1)
    obtain ⟨μ', e2, f2, r⟩ := hx_wkR d h8 hm hW ht j (k + 1) μ1 (by omega) (hx_ERG (Or.inl rfl) f1 (hx_ERV f0 hE)) s1' g1'
    refine ⟨μ', ?_, hx_tr ff f2, r⟩
    rw [← e2]
    conv => lhs; rw [hq_M_weeks_36]
    have k17 := hx_chg h8 (ht k (by omega)) (hx_sa E (hx_by E 255 t k) 0 255)
    rw [if_pos (nI_lt (by omega) (by omega)), e0, hx_bI, e1, hx_bV, hx_SR0 s1 (by omega), hx_SR0 hs (by omega), hx_kcS, ← nI_1]
    rw [ew] at k17
    by_cases c : hx_wW E t k = -1
    · rw [if_pos c, if_pos (k17.2 c), hx_flag0, hx_bI, Int32.add_zero]
    · rw [if_neg c, if_neg (fun z => c (k17.1 z)), hx_flag1, hx_bI]
