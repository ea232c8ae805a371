/-! ===== E: what can be undone grows ===== -/
def hx_pC (μ : hs_M) (s f : Nat) (u : Nat → hx_St) : Prop := s ≤ 20 ∧ f < 20 ∧ μ.1 3 0 4 = nI s ∧ μ.1 3 0 3 = nI f ∧ ∀ k, k < s → hx_SF μ (1 + (f + k) % 20) (u k)
def hx_pR (μ : hs_M) (s : Nat) (u : Nat → hx_St) : Prop := μ.1 12 0 28 = nI s ∧ ∀ k, k < s → hx_SR μ 55 (117 * k) (u k)
def hx_uz (u : Nat → hx_St) (s : Nat) (t : hx_St) : Nat → hx_St := fun k => if k = s then t else u k
def hx_pX (κ b _i : Nat) : Prop := κ = 3 ∨ (1 ≤ b ∧ b ≤ 20 ∧ (κ = 6 ∨ (24 ≤ κ ∧ κ ≤ 29)))
def hx_pY (κ _b i : Nat) : Prop := κ = 55 ∨ (κ = 12 ∧ i = 28)
def hx_s' (s : Nat) : Nat := if s = 20 then 20 else s + 1
def hx_u' (u : Nat → hx_St) (s : Nat) (t : hx_St) : Nat → hx_St := if s = 20 then hx_uz (fun k => u (k + 1)) 19 t else hx_uz u s t
theorem hx_pCf {X : Nat → Nat → Nat → Prop} {μ μ' : hs_M} (f : hx_fr X μ μ') (hX : ∀ κ b i, hx_pX κ b i → ¬ X κ b i) {s a : Nat} {u : Nat → hx_St} (h : hx_pC μ s a u) : hx_pC μ' s a u := by
  obtain ⟨h1, h2, h3, h4, h5⟩ := h
  refine ⟨h1, h2, ?_, ?_, fun k hk => hx_SFf f (fun κ i x => hX _ _ _ ?_) (h5 k hk)⟩
  · rw [f.1 3 0 4 (hX _ _ _ (Or.inl rfl)), h3]
  · rw [f.1 3 0 3 (hX _ _ _ (Or.inl rfl)), h4]
  · unfold hx_pX
    omega
theorem hx_pRf {X : Nat → Nat → Nat → Prop} {μ μ' : hs_M} (f : hx_fr X μ μ') (hX : ∀ κ b i, hx_pY κ b i → ¬ X κ b i) {s : Nat} {u : Nat → hx_St} (h : hx_pR μ s u) : hx_pR μ' s u :=
  ⟨(f.1 12 0 28 (hX _ _ _ (Or.inr ⟨rfl, rfl⟩))).trans h.1, fun k hk => hx_SRf f (fun _ _ => hX _ _ _ (Or.inl rfl)) (h.2 k hk)⟩
theorem hx_iPo {P W : Nat} {μ : hs_M} (h : hx_iP P W μ) : ∃ s f u, hx_pC μ s f u ∧ hx_pR μ s u ∧ ∀ k, k < s → hx_tw P W (u k) := by
  obtain ⟨s, f, u, h1, h2, h3, h4, h5, h6⟩ := h
  exact ⟨s, f, u, ⟨h1, h2, h3, h4, fun k hk => (h6 k hk).1⟩, ⟨h5, fun k hk => (h6 k hk).2.1⟩, fun k hk => (h6 k hk).2.2⟩
theorem hx_iPk {P W : Nat} {μ : hs_M} {s f : Nat} {u : Nat → hx_St} (a : hx_pC μ s f u) (b : hx_pR μ s u) (c : ∀ k, k < s → hx_tw P W (u k)) : hx_iP P W μ :=
  ⟨s, f, u, a.1, a.2.1, a.2.2.1, a.2.2.2.1, b.1, fun k hk => ⟨a.2.2.2.2 k hk, b.2 k hk, c k hk⟩⟩
theorem hx_ustw {P W : Nat} {s : Nat} (hs : s ≤ 20) {u : Nat → hx_St} (h : ∀ k, k < s → hx_tw P W (u k)) {t : hx_St} (ht : hx_tw P W t) : ∀ k, k < hx_s' s → hx_tw P W (hx_u' u s t k) := by
  intro k hk
  unfold hx_s' at hk
  unfold hx_u' hx_uz
  by_cases c : s = 20
  · rw [if_pos c] at hk ⊢
    by_cases e : k = 19
    · show hx_tw P W (if k = 19 then t else u (k + 1))
      rw [if_pos e]
      exact ht
    · show hx_tw P W (if k = 19 then t else u (k + 1))
      rw [if_neg e]
      exact h (k + 1) (by omega)
  · rw [if_neg c] at hk ⊢
    by_cases e : k = s
    · show hx_tw P W (if k = s then t else u k)
      rw [if_pos e]
      exact ht
    · show hx_tw P W (if k = s then t else u k)
      rw [if_neg e]
      exact h k (by omega)
theorem hx_remA (d : Nat) {μ : hs_M} {s f : Nat} {u : Nat → hx_St} (hs : s < 20) (h : hx_pC μ s f u) {t : hx_St} (ht : hx_SF μ 0 t) : ∃ μ', he_Past_remember_32 (d + 2) 0 μ = some (none, μ') ∧ hx_fr hx_pX μ μ' ∧ hx_pC μ' (s + 1) f (hx_uz u s t) := by
  obtain ⟨_, hf, e4, e3, hu⟩ := h
  have hm := Nat.mod_lt (f + s) (show 20 > 0 by omega)
  obtain ⟨μa, e1, f1, s1⟩ := hx_copy d ht (show 1 + (f + s) % 20 ≠ 0 by omega)
  have f1' : hx_fr hx_pX μ μa := hx_mo (fun κ b i x => by unfold hx_pX; omega) f1
  refine ⟨hs_wI μa 3 0 4 (nI (s + 1)), ?_, hx_wr f1' _ (Or.inl rfl), by omega, hf, ?_, ?_, ?_⟩
  · rw [hq_Past_remember_32, e3, e4, nI_add, show (20 : Int32) = nI 20 from rfl, hx_fm _ (by omega) (by omega) (by omega), hx_bI, if_pos (hx_in hm (by omega)), nI_clamp (by omega), e1, hx_bV, f1.1 3 0 4 (by omega), e4, nI_1]
  · rw [hx_rd, if_pos ⟨rfl, rfl, rfl⟩]
  · rw [hx_rd, if_neg (by omega), f1.1 3 0 3 (by omega), e3]
  · intro k hk
    have hw : hx_fr (fun κ _ _ => κ = 3) μa (hs_wI μa 3 0 4 (nI (s + 1))) := hx_wr (hx_rf _ _) _ rfl
    apply hx_SFf hw (by intro κ i a b; omega)
    unfold hx_uz
    by_cases c : k = s
    · rw [if_pos c, c]
      exact s1
    · rw [if_neg c]
      exact hx_SFf f1 (by intro κ i a b; omega) (hu k (by omega))
theorem hx_r20 : ∀ f, f < 20 → (nI f + 1) - (nI f + 1) / 20 * 20 = nI ((f + 1) % 20) := by decide +kernel
theorem hx_remC (d : Nat) {μ : hs_M} {s f : Nat} {u : Nat → hx_St} (h : hx_pC μ s f u) {t : hx_St} (ht : hx_SF μ 0 t) : ∃ μ' f', hc_Past_remember (d + 3) 0 μ = some (none, μ') ∧ hx_fr hx_pX μ μ' ∧ hx_pC μ' (hx_s' s) f' (hx_u' u s t) := by
  unfold hx_s' hx_u'
  have e4 := h.2.2.1
  have e3 := h.2.2.2.1
  by_cases c : s = 20
  · rw [if_pos c, if_pos c]
    have fa : hx_fr (fun κ _ _ => κ = 3) μ (hs_wI (hs_wI μ 3 0 3 (nI ((f + 1) % 20))) 3 0 4 (nI 19)) := hx_wr (hx_wr (hx_rf _ _) _ rfl) _ rfl
    have ha : hx_pC (hs_wI (hs_wI μ 3 0 3 (nI ((f + 1) % 20))) 3 0 4 (nI 19)) 19 ((f + 1) % 20) (fun k => u (k + 1)) := by
      refine ⟨by omega, Nat.mod_lt _ (by omega), ?_, ?_, ?_⟩
      · rw [hx_rd, if_pos ⟨rfl, rfl, rfl⟩]
      · rw [hx_rd, if_neg (by omega), hx_rd, if_pos ⟨rfl, rfl, rfl⟩]
      · intro k hk
        have hh := hx_SFf fa (by intro κ i a b; omega) (h.2.2.2.2 (k + 1) (by omega))
        rw [show (f + (k + 1)) % 20 = ((f + 1) % 20 + k) % 20 by omega] at hh
        exact hh
    obtain ⟨μ', e, f2, r⟩ := hx_remA d (by omega) ha (hx_SFf fa (by intro κ i a b; omega) ht)
    refine ⟨μ', _, ?_, hx_tr (hx_mo (fun κ b i x => Or.inl x) fa) f2, r⟩
    rw [hq_Past_remember, e4, c, if_pos (show nI 20 = (20 : Int32) from rfl), e3, hx_r20 f h.2.1, show nI 20 - 1 = nI 19 by decide]
    exact e
  · rw [if_neg c, if_neg c]
    have hs : s < 20 := by have := h.1; omega
    obtain ⟨μ', e, f2, r⟩ := hx_remA d hs h ht
    refine ⟨μ', f, ?_, f2, r⟩
    rw [hq_Past_remember, e4, if_neg (show ¬ nI s = (20 : Int32) from fun y => c (by
      have y2 := congrArg Int32.toNatClampNeg y
      rw [nI_clamp (by omega)] at y2
      exact y2))]
    exact e
theorem hx_ptsA (d : Nat) {s : Nat} (hs : s < 20) {t : hx_St} {u : Nat → hx_St} {μ0 : hs_M} (h : hx_pR μ0 s u) (h45 : hx_SR μ0 45 0 t) : ∀ (m k : Nat) (μ : hs_M), k + m = 117 → hx_fr (fun κ _ i => κ = 55 ∧ 117 * s ≤ i ∧ i < 117 * s + 117) μ0 μ → (∀ i, i < k → μ.1 55 0 (117 * s + i) = t i) → ∃ μ', he_M_putsBy_51 d (nI k) μ = some (none, μ') ∧ hx_fr hx_pY μ0 μ' ∧ hx_pR μ' (s + 1) (hx_uz u s t)
  | 0, k, μ, hk, f, hh => by
    rw [hq_M_putsBy_51, if_neg (show ¬ nI k < (117 : Int32) from nI_nlt (b := 117) (by omega) (by omega)), f.1 12 0 28 (by omega), h.1, nI_1]
    refine ⟨_, rfl, hx_wr (hx_mo (fun κ b i x => Or.inl x.1) f) _ (Or.inr ⟨rfl, rfl⟩), ?_, ?_⟩
    · rw [hx_rd, if_pos ⟨rfl, rfl, rfl⟩]
    · intro k' hk'
      have hw : hx_fr (fun κ _ _ => κ = 12) μ (hs_wI μ 12 0 28 (nI (s + 1))) := hx_wr (hx_rf _ _) _ rfl
      apply hx_SRf hw (by intro i a b; omega)
      unfold hx_uz
      by_cases c : k' = s
      · rw [if_pos c, c]
        exact fun i hi => hh i (by omega)
      · rw [if_neg c]
        exact hx_SRf f (by intro i a b; omega) (h.2 k' (by omega))
  | m + 1, k, μ, hk, f, hh => by
    rw [hq_M_putsBy_51, if_pos (show nI k < (117 : Int32) from nI_lt (b := 117) (by omega) (by omega)), f.1 12 0 28 (by omega), h.1, hx_117, if_pos (hx_in (by omega) (by omega)), if_pos (hx_in (by omega) (by omega)), nI_clamp (show k < 2 ^ 31 by omega), nI_clamp (show 117 * s + k < 2 ^ 31 by omega), nI_1, f.1 45 0 _ (by omega), hx_SR0 h45 (by omega)]
    apply hx_ptsA d hs h h45 m (k + 1) _ (by omega) (hx_wr f _ (by omega))
    intro i hi
    rw [hx_rd]
    by_cases c : i = k
    · rw [if_pos ⟨rfl, by rw [c], rfl⟩, c]
    · rw [if_neg (by omega), hh i (by omega)]
theorem hx_ptsB (d : Nat) {t : hx_St} {u : Nat → hx_St} {μ0 : hs_M} (h : hx_pR μ0 20 u) (h45 : hx_SR μ0 45 0 t) : ∀ (m k : Nat) (μ : hs_M), k + m = 2223 → hx_fr (fun κ _ _ => κ = 55) μ0 μ → (∀ i, i < k → μ.1 55 0 i = μ0.1 55 0 (i + 117)) → (∀ i, k ≤ i → μ.1 55 0 i = μ0.1 55 0 i) → ∃ μ', he_M_putsBy_11 d (nI k) μ = some (none, μ') ∧ hx_fr hx_pY μ0 μ' ∧ hx_pR μ' 20 (hx_uz (fun k => u (k + 1)) 19 t)
  | 0, k, μ, hk, f, ha, hb => by
    rw [hq_M_putsBy_11, if_neg (show ¬ nI k < (2223 : Int32) from nI_nlt (b := 2223) (by omega) (by omega)), f.1 12 0 28 (by omega), h.1, show nI 20 - 1 = nI 19 by decide]
    have hw : hx_fr (fun κ _ i => κ = 12 ∧ i = 28) μ (hs_wI μ 12 0 28 (nI 19)) := hx_wr (hx_rf _ _) _ ⟨rfl, rfl⟩
    have hp : hx_pR (hs_wI μ 12 0 28 (nI 19)) 19 (fun k => u (k + 1)) := by
      refine ⟨by rw [hx_rd, if_pos ⟨rfl, rfl, rfl⟩], fun k' hk' i hi => ?_⟩
      have z := h.2 (k' + 1) (by omega) i hi
      rw [show 117 * (k' + 1) + i = 117 * k' + i + 117 by omega] at z
      rw [hx_rd, if_neg (by omega), ha _ (by omega), z]
    obtain ⟨μ', e, f2, r⟩ := hx_ptsA d (by omega) hp (hx_SRf hw (by intro i a b; omega) (hx_SRf f (by intro i a b; omega) h45)) 117 0 _ (by omega) (hx_rf _ _) (fun i hi => absurd hi (by omega))
    exact ⟨μ', e, hx_tr (hx_tr (hx_mo (fun κ b i x => Or.inl x) f) (hx_mo (fun κ b i x => Or.inr x) hw)) f2, r⟩
  | m + 1, k, μ, hk, f, ha, hb => by
    rw [hq_M_putsBy_11, if_pos (show nI k < (2223 : Int32) from nI_lt (b := 2223) (by omega) (by omega)), show nI k + 117 = nI (k + 117) by rw [show (117 : Int32) = nI 117 from rfl, nI_add], if_pos (hx_in (by omega) (by omega)), if_pos (hx_in (by omega) (by omega)), nI_clamp (show k < 2 ^ 31 by omega), nI_clamp (show k + 117 < 2 ^ 31 by omega), nI_1, hb (k + 117) (by omega)]
    apply hx_ptsB d h h45 m (k + 1) _ (by omega) (hx_wr f _ rfl)
    · intro i hi
      rw [hx_rd]
      by_cases c : i = k
      · rw [if_pos ⟨rfl, c, rfl⟩, c]
      · rw [if_neg (by omega), ha i (by omega)]
    · intro i hi
      rw [hx_rd, if_neg (by omega), hb i (by omega)]
theorem hx_remR (d : Nat) {μ : hs_M} {s : Nat} (hs : s ≤ 20) {u : Nat → hx_St} (h : hx_pR μ s u) {t : hx_St} (h45 : hx_SR μ 45 0 t) : ∃ μ', hc_M_putsBy (d + 1) μ = some (none, μ') ∧ hx_fr hx_pY μ μ' ∧ hx_pR μ' (hx_s' s) (hx_u' u s t) := by
  unfold hx_s' hx_u'
  by_cases c : s = 20
  · rw [if_pos c, if_pos c]
    rw [c] at h
    rw [hq_M_putsBy, h.1, if_pos (show nI 20 = (20 : Int32) from rfl)]
    exact hx_ptsB d h h45 2223 0 μ (by omega) (hx_rf _ _) (fun i hi => absurd hi (by omega)) (fun i _ => rfl)
  · rw [if_neg c, if_neg c, hq_M_putsBy, h.1, if_neg (show ¬ nI s = (20 : Int32) from fun y => c (by
      have y2 := congrArg Int32.toNatClampNeg y
      rw [nI_clamp (by omega)] at y2
      exact y2))]
    exact hx_ptsA d (by omega) h h45 117 0 μ (by omega) (hx_rf _ _) (fun i hi => absurd hi (by omega))
