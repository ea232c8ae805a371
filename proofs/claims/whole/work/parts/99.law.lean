/-! ===== E: law ===== -/
def hx_lw (t : hx_St) (L : Nat) : hx_St := hx_pw (hx_pw (hx_pw (hx_pw t (21 + L) (t 17)) (33 + L) (t 19)) (45 + L) (-1)) 20 (nI (L + 1))
theorem hx_lwO (t : hx_St) (L : Nat) {i : Nat} (h1 : i ≠ 21 + L) (h2 : i ≠ 33 + L) (h3 : i ≠ 45 + L) (h4 : i ≠ 20) : hx_lw t L i = t i := by
  unfold hx_lw
  rw [hx_pwO _ _ h4, hx_pwO _ _ h3, hx_pwO _ _ h2, hx_pwO _ _ h1]
theorem hx_lw20 (t : hx_St) (L : Nat) : hx_lw t L 20 = nI (L + 1) := by
  unfold hx_lw
  exact if_pos rfl
theorem hx_lw45 (t : hx_St) (L : Nat) : hx_lw t L (45 + L) = -1 := by
  unfold hx_lw
  rw [hx_pwO _ _ (by omega)]
  exact if_pos rfl
theorem hx_lw33 (t : hx_St) (L : Nat) : hx_lw t L (33 + L) = t 19 := by
  unfold hx_lw
  rw [hx_pwO _ _ (by omega), hx_pwO _ _ (by omega)]
  exact if_pos rfl
theorem hx_lw21 (t : hx_St) (L : Nat) : hx_lw t L (21 + L) = t 17 := by
  unfold hx_lw
  rw [hx_pwO _ _ (by omega), hx_pwO _ _ (by omega), hx_pwO _ _ (by omega)]
  exact if_pos rfl
theorem hx_hcU (t : hx_St) (n : Nat) : hx_hc t (n + 1) = hx_hc t n + (if t (45 + n) < 0 then 1 else 0) := rfl
theorem hx_hbS (t : hx_St) (n : Nat) : hx_hb t (n + 1) = if t (45 + n) < 0 then hx_hb t n ||| ((1 : Int32) <<< (nI n &&& 31)) else hx_hb t n := rfl
theorem hx_lwh {t : hx_St} {L : Nat} (hL : L < 12) (e : t 20 = nI L) : hx_hold (hx_lw t L) = hx_hold t + 1 ∧ hx_holds (hx_lw t L) = hx_holds t ||| ((1 : Int32) <<< (nI L &&& 31)) := by
  have m1 : (-1 : Int32) < 0 := by decide
  unfold hx_hold hx_holds
  rw [hx_lw20, e, nI_clamp (by omega), nI_clamp (by omega), hx_hcU, hx_hbS, hx_lw45, if_pos m1, if_pos m1]
  rw [hx_hcc (t := hx_lw t L) (t' := t) L (fun k hk => hx_lwO t L (by omega) (by omega) (by omega) (by omega)), hx_hbc (t := hx_lw t L) (t' := t) L (fun k hk => hx_lwO t L (by omega) (by omega) (by omega) (by omega))]
  exact ⟨rfl, rfl⟩
theorem hx_lwtw {P W : Nat} (h8 : P ≤ 8) {t : hx_St} (ht : hx_tw P W t) {L : Nat} (hL : L < 12) (e : t 20 = nI L) (h17 : ¬ t 17 < 0) : hx_tw P W (hx_lw t L) := by
  obtain ⟨h1, h2, ⟨L', hL', e20, hl⟩, h4⟩ := ht
  have eL : L' = L := by
    have y2 := congrArg Int32.toNatClampNeg (e20.symm.trans e)
    rw [nI_clamp (by omega), nI_clamp (by omega)] at y2
    exact y2
  have o17 : hx_lw t L 17 = t 17 := hx_lwO t L (by omega) (by omega) (by omega) (by omega)
  refine ⟨?_, ?_, ⟨L + 1, by omega, hx_lw20 t L, ?_⟩, ?_⟩
  · rw [o17]
    exact h1
  · rw [hx_lwO t L (by omega) (by omega) (by omega) (by omega)]
    exact h2
  · intro k hk
    rw [o17]
    by_cases c : k = L
    · rw [c, hx_lw21]
      exact fun _ => ⟨h17, rfl⟩
    · rw [hx_lwO t L (by omega) (by omega) (by omega) (by omega), hx_lwO t L (by omega) (by omega) (by omega) (by omega)]
      exact hl k (by omega)
  · intro p hp
    rw [hx_lwO t L (by omega) (by omega) (by omega) (by omega)]
    exact h4 p hp
def hx_mL (μ : hs_M) (t : hx_St) (L : Nat) : hs_M := hs_wI (hs_wI (hs_wI (hs_wI (hs_wI (hs_wI μ 26 0 L (t 17)) 27 0 L (t 19)) 28 0 L (-1)) 6 0 4 (hx_holds t ||| ((1 : Int32) <<< (nI L &&& 31)))) 6 0 5 (nI (hx_hold t + 1))) 6 0 6 (nI (L + 1))
theorem hx_mLf (μ : hs_M) (t : hx_St) (L : Nat) : hx_fr (fun κ b i => b = 0 ∧ ((κ = 6 ∧ (i = 4 ∨ i = 5 ∨ i = 6)) ∨ ((κ = 26 ∨ κ = 27 ∨ κ = 28) ∧ i = L))) μ (hx_mL μ t L) :=
  hx_wr (hx_wr (hx_wr (hx_wr (hx_wr (hx_wr (hx_rf _ _) _ (by omega)) _ (by omega)) _ (by omega)) _ (by omega)) _ (by omega)) _ (by omega)
theorem hx_mLs {μ : hs_M} {t : hx_St} (hs : hx_SF μ 0 t) {L : Nat} (hL : L < 12) (e : t 20 = nI L) : hx_SF (hx_mL μ t L) 0 (hx_lw t L) := by
  obtain ⟨⟨h1, h2, h3, h4, h5, h6, h7, h8⟩, k6, k26, k27, k28, k29⟩ := hs
  have f := hx_mLf μ t L
  have fh := hx_lwh hL e
  have o : ∀ i, i < 20 → hx_lw t L i = t i := fun i hi => hx_lwO t L (by omega) (by omega) (by omega) (by omega)
  refine ⟨⟨?_, ?_, ?_, ?_, ?_, ?_, ?_, ?_⟩, ?_, ?_, ?_, ?_, ?_⟩
  · intro i hi
    rw [f.1 24 0 i (by omega), o i (by omega), h1 i hi]
  · intro i hi
    rw [f.1 25 0 i (by omega), o _ (by omega), h2 i hi]
  · rw [f.1 6 0 3 (by omega), o _ (by omega), h3]
  · rw [f.1 6 0 1 (by omega), o _ (by omega), h4]
  · rw [f.1 6 0 2 (by omega), o _ (by omega), o _ (by omega), h5]
  · rw [f.1 6 0 0 (by omega), o _ (by omega), h6]
  · unfold hx_mL
    rw [fh.2, hx_rd, if_neg (by omega), hx_rd, if_neg (by omega), hx_rd, if_pos ⟨rfl, rfl, rfl⟩]
  · unfold hx_mL
    rw [fh.1, hx_rd, if_neg (by omega), hx_rd, if_pos ⟨rfl, rfl, rfl⟩]
  · unfold hx_mL
    rw [hx_lw20, hx_rd, if_pos ⟨rfl, rfl, rfl⟩]
  · intro i hi
    by_cases c : i = L
    · unfold hx_mL
      rw [c, hx_lw21, hx_rd, if_neg (by omega), hx_rd, if_neg (by omega), hx_rd, if_neg (by omega), hx_rd, if_neg (by omega), hx_rd, if_neg (by omega), hx_rd, if_pos ⟨rfl, rfl, rfl⟩]
    · rw [f.1 26 0 i (by omega), hx_lwO t L (by omega) (by omega) (by omega) (by omega), k26 i hi]
  · intro i hi
    by_cases c : i = L
    · unfold hx_mL
      rw [c, hx_lw33, hx_rd, if_neg (by omega), hx_rd, if_neg (by omega), hx_rd, if_neg (by omega), hx_rd, if_neg (by omega), hx_rd, if_pos ⟨rfl, rfl, rfl⟩]
    · rw [f.1 27 0 i (by omega), hx_lwO t L (by omega) (by omega) (by omega) (by omega), k27 i hi]
  · intro i hi
    by_cases c : i = L
    · unfold hx_mL
      rw [c, hx_lw45, hx_rd, if_neg (by omega), hx_rd, if_neg (by omega), hx_rd, if_neg (by omega), hx_rd, if_pos ⟨rfl, rfl, rfl⟩]
    · rw [f.1 28 0 i (by omega), hx_lwO t L (by omega) (by omega) (by omega) (by omega), k28 i hi]
  · intro i hi
    rw [f.1 29 0 i (by omega), hx_lwO t L (by omega) (by omega) (by omega) (by omega), k29 i hi]
theorem hx_law (d : Nat) {n : Nat} {E : hx_Env} {t : hx_St} {μ : hs_M} (h : hx_I n E t μ) : hx_A n μ (hc_H_law (d + 4)) (hc_M_law (d + 4)) := by
  have h8 := h.1.1.1
  obtain ⟨h1, h2, ⟨L, hL, e20, hl⟩, h4⟩ := h.2.2.2.2.1
  have c1 : μ.1 6 0 1 = t 17 := h.2.2.1.1.2.2.2.1
  have c6 : μ.1 6 0 6 = t 20 := h.2.2.1.2.1
  have r17 : μ.1 45 0 17 = t 17 := hx_SR0 h.2.2.2.1 (by omega)
  have r20 : μ.1 45 0 20 = t 20 := hx_SR0 h.2.2.2.1 (by omega)
  rcases h1 with h1 | ⟨p, hp, h1⟩
  · apply hx_Anone h (v := -2)
    · rw [hq_H_law, c1, if_pos h1]
    · rw [hq_M_law, r17, h1, if_pos (show (-1 : Int32) < 0 by decide)]
  have n1 : ¬ t 17 = -1 := by rw [h1]; exact fun y => hx_m1n p (by omega) y.symm
  have n17 : ¬ t 17 < 0 := by rw [h1]; exact nI_pos (by omega)
  by_cases c12 : L = 12
  · apply hx_Anone h (v := -3)
    · rw [hq_H_law, c1, if_neg n1, c6, e20, c12, if_neg (show ¬ nI 12 < (12 : Int32) by decide)]
    · rw [hq_M_law, r17, if_neg n17, r20, e20, c12, if_pos (show nI 12 = (12 : Int32) from rfl)]
  obtain ⟨μr, e1, f1, hE, hS, K⟩ := hx_past d (d + 2) h
  have fL := hx_mLf μr t L
  obtain ⟨μp, e3, f3, er0, sr0, er, sr, mk⟩ := K _ (hx_mL μr t L) fL (fun κ b i x => Or.inl ⟨by omega, x.1⟩)
  have q : ∀ a, a ≤ 45 → nI a + nI L = nI (a + L) := fun a _ => by rw [nI_add]
  have s1 : hx_SR (hs_wI μp 45 0 (21 + L) (t 17)) 45 0 (hx_pw t (21 + L) (t 17)) := hx_SRw sr (if_pos rfl) (fun i _ z => if_neg z)
  have s2 : hx_SR (hs_wI (hs_wI μp 45 0 (21 + L) (t 17)) 45 0 (33 + L) (t 19)) 45 0 (hx_pw (hx_pw t (21 + L) (t 17)) (33 + L) (t 19)) := hx_SRw s1 (if_pos rfl) (fun i _ z => if_neg z)
  have s3 : hx_SR (hs_wI (hs_wI (hs_wI μp 45 0 (21 + L) (t 17)) 45 0 (33 + L) (t 19)) 45 0 (45 + L) (-1)) 45 0 (hx_pw (hx_pw (hx_pw t (21 + L) (t 17)) (33 + L) (t 19)) (45 + L) (-1)) := hx_SRw s2 (if_pos rfl) (fun i _ z => if_neg z)
  have s4 : hx_SR (hs_wI (hs_wI (hs_wI (hs_wI μp 45 0 (21 + L) (t 17)) 45 0 (33 + L) (t 19)) 45 0 (45 + L) (-1)) 45 0 20 (nI (L + 1))) 45 0 (hx_lw t L) := hx_SRw s3 (hx_lw20 t L) (fun i _ z => by unfold hx_lw; exact if_neg z)
  have a19 := hx_SR0 s1 (show 19 < 117 by omega)
  rw [hx_pwO _ _ (by omega)] at a19
  have a20 := hx_SR0 s3 (show 20 < 117 by omega)
  rw [hx_pwO _ _ (by omega), hx_pwO _ _ (by omega), hx_pwO _ _ (by omega)] at a20
  have p17 : μp.1 45 0 17 = t 17 := hx_SR0 sr (by omega)
  have p20 : μp.1 45 0 20 = nI L := (hx_SR0 sr (by omega)).trans e20
  have w1 : (hs_wI μ 12 0 0 0).1 45 0 17 = t 17 := r17
  refine hx_Amk (v := nI L) (μ1 := hx_mL μr t L) (μ2 := hs_wI (hs_wI (hs_wI (hs_wI μp 45 0 (21 + L) (t 17)) 45 0 (33 + L) (t 19)) 45 0 (45 + L) (-1)) 45 0 20 (nI (L + 1))) (E := E) (t := hx_lw t L) ?_ ?_ ?_
  · have hm : hc_State_makeLaw (d + 3) 0 μr = some (some (vI (nI L)), hx_mL μr t L) := by
      obtain ⟨⟨g1, g2, g3, g4, g5, g6, g7, g8⟩, k6, _⟩ := hS
      rw [hq_State_makeLaw, k6, e20, if_neg (nI_pos (by omega)), if_pos (show nI L < (12 : Int32) from nI_lt (b := 12) (by omega) (by omega)), if_pos (hx_in (by omega) (by omega)), if_pos (hx_in (by omega) (by omega)), if_pos (hx_in (by omega) (by omega)), nI_clamp (by omega), g4, g6, g7, g8, nI_1, nI_1]
      rfl
    rw [hq_H_law, c1, if_neg n1, c6, e20, if_pos (show nI L < (12 : Int32) from nI_lt (b := 12) (by omega) (by omega)), e1, hx_bV, hm, hx_bI]
  · have m17 : (hx_mL μr t L).1 45 0 17 = t 17 := by
      have z := hx_SR0 sr0 (show 17 < 117 by omega)
      rw [hx_rd, if_neg (by omega)] at z
      exact z
    have m20 : (hx_mL μr t L).1 45 0 20 = nI L := by
      have z := hx_SR0 sr0 (show 20 < 117 by omega)
      rw [hx_rd, if_neg (by omega)] at z
      rw [z, e20]
    rw [hq_M_law, m17, if_neg n17, m20, if_neg (show ¬ nI L = (12 : Int32) from fun y => c12 (by
      have y2 := congrArg Int32.toNatClampNeg y
      rw [nI_clamp (by omega)] at y2
      exact y2)), e3, hx_bV, p20, p17, show (21 : Int32) + nI L = nI (21 + L) from q 21 (by omega), show (33 : Int32) + nI L = nI (33 + L) from q 33 (by omega), show (45 : Int32) + nI L = nI (45 + L) from q 45 (by omega), if_pos (hx_in (by omega) (by omega)), if_pos (hx_in (by omega) (by omega)), if_pos (hx_in (by omega) (by omega)), nI_clamp (show 21 + L < 2 ^ 31 by omega), nI_clamp (show 33 + L < 2 ^ 31 by omega), nI_clamp (show 45 + L < 2 ^ 31 by omega), a19, a20, e20, nI_1]
  · have fy : hx_fr (fun κ _ _ => κ = 45) μp (hs_wI (hs_wI (hs_wI (hs_wI μp 45 0 (21 + L) (t 17)) 45 0 (33 + L) (t 19)) 45 0 (45 + L) (-1)) 45 0 20 (nI (L + 1))) := hx_wr (hx_wr (hx_wr (hx_wr (hx_rf _ _) _ rfl) _ rfl) _ rfl) _ rfl
    have fw : hx_fr (fun κ _ i => κ = 12 ∧ i = 0) (hx_mL μr t L) (hs_wI (hx_mL μr t L) 12 0 0 0) := hx_wr (hx_rf _ _) _ ⟨rfl, rfl⟩
    refine mk _ _ _ fy (fun κ b i x => Or.inl x) ?_ s4 (hx_twm (hx_lwtw h8 h.2.2.2.2.1 (by omega) e20 n17) (by omega)) (Or.inl (fun κ i x => ⟨by omega, by omega⟩))
    exact hx_SFf fy (by intro κ i a b; omega) (hx_SFf f3 (by intro κ i a b; unfold hx_pY at b; omega) (hx_SFf fw (by intro κ i a b; omega) (hx_mLs hS (by omega) e20)))
