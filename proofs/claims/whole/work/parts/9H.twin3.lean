/-! ===== E: twin, the call ===== -/
/-- one more of the people -/
theorem hx_cntP (d : Nat) {μ : hs_M} {P : Nat} (h : μ.1 8 0 9 = nI P) (hP : P < 8) : hc_Town_countOneMore (d + 1) μ = some (none, hs_wI μ 8 0 9 (nI (P + 1))) := by
  rw [hq_Town_countOneMore, h, if_neg (nI_pos (by omega)), if_pos (show nI P < (8 : Int32) from nI_lt (b := 8) hP (by omega)), nI_1, hq_Town_countOneMore_26]
theorem hx_t65 (d : Nat) {p P : Nat} (hp : p < 8) {μ0 : hs_M} : ∀ (m k : Nat) (μ : hs_M), k + m = 6 → hx_fr (fun κ b i => b = 0 ∧ κ = 50 ∧ 48 ≤ i) μ0 μ → (∀ i, i < k → μ.1 50 0 (48 + i) = μ0.1 43 0 (6 * p + i)) → ∃ μ', he_M_twin_65 d (nI p) (nI P) (nI k) μ = he_M_twin_65 d (nI p) (nI P) (nI 6) μ' ∧ hx_fr (fun κ b i => b = 0 ∧ κ = 50 ∧ 48 ≤ i) μ0 μ' ∧ (∀ i, i < 6 → μ'.1 50 0 (48 + i) = μ0.1 43 0 (6 * p + i))
  | 0, k, μ, hk, f, h => ⟨μ, by rw [show k = 6 from hk], f, fun i hi => h i (by omega)⟩
  | m + 1, k, μ, hk, f, h => by
    rw [hq_M_twin_65, if_pos (show nI k < (6 : Int32) from nI_lt (b := 6) (by omega) (by omega)), show (6 : Int32) * nI p = nI (6 * p) from pk_mul 6 p, nI_add, show (48 : Int32) + nI k = nI (48 + k) from nI_add 48 k, if_pos (hx_in (by omega) (by omega)), if_pos (hx_in (by omega) (by omega)), nI_clamp (by omega), nI_clamp (by omega), nI_1, f.1 43 0 _ (by omega)]
    refine hx_t65 d hp m (k + 1) _ (by omega) (hx_wr f _ (by omega)) (fun i hi => ?_)
    rw [hx_rd]
    by_cases c : i = k
    · rw [if_pos ⟨rfl, by omega, rfl⟩, c]
    · rw [if_neg (by omega), h i (by omega)]
def hx_yT (P κ b i : Nat) : Prop := b = 0 ∧ ((κ = 12 ∧ (i = 3 ∨ i = 28)) ∨ (κ = 45 ∧ (i = P ∨ i = 8 + P ∨ i = 16)) ∨ ((κ = 41 ∨ κ = 42 ∨ κ = 44) ∧ i = P) ∨ (κ = 43 ∧ 6 * P ≤ i) ∨ κ = 50 ∨ κ = 51)
theorem hx_twR (d : Nat) {p P : Nat} (hP : P < 8) (hp : p < P) {μ : hs_M} (h3 : μ.1 12 0 3 = nI P) : ∃ μ', he_M_twin_65 (d + 2) (nI p) (nI P) 0 (hs_wI (hs_wI (hs_wI μ 12 0 3 (nI (P + 1))) 45 0 P (μ.1 45 0 p)) 41 0 P (μ.1 41 0 p)) = some (some (vI (nI P)), μ') ∧ hx_fr (hx_yT P) μ μ' ∧ μ'.1 12 0 3 = nI (P + 1) ∧ μ'.1 12 0 28 = 0 ∧ μ'.1 45 0 P = μ.1 45 0 p ∧ μ'.1 45 0 (8 + P) = 0 ∧ μ'.1 45 0 16 = (μ.1 45 0 16 ||| ((1 : Int32) <<< (nI P &&& 31))) ∧ μ'.1 41 0 P = μ.1 41 0 p ∧ μ'.1 42 0 P = μ.1 42 0 p ∧ μ'.1 44 0 P = μ.1 44 0 p ∧ ∀ i, i < 6 → μ'.1 43 0 (6 * P + i) = μ.1 43 0 (6 * p + i) := by
  have f0 : hx_fr (hx_yT P) μ (hs_wI (hs_wI (hs_wI μ 12 0 3 (nI (P + 1))) 45 0 P (μ.1 45 0 p)) 41 0 P (μ.1 41 0 p)) := hx_wr (hx_wr (hx_wr (hx_rf _ _) _ (by unfold hx_yT; omega)) _ (by unfold hx_yT; omega)) _ (by unfold hx_yT; omega)
  have r0 : ∀ κ i, ¬ (κ = 12 ∧ i = 3) → ¬ (κ = 45 ∧ i = P) → ¬ (κ = 41 ∧ i = P) → (hs_wI (hs_wI (hs_wI μ 12 0 3 (nI (P + 1))) 45 0 P (μ.1 45 0 p)) 41 0 P (μ.1 41 0 p)).1 κ 0 i = μ.1 κ 0 i := fun κ i a b c => by
    rw [hx_rd, if_neg (by omega), hx_rd, if_neg (by omega), hx_rd, if_neg (by omega)]
  have v3 : (hs_wI (hs_wI (hs_wI μ 12 0 3 (nI (P + 1))) 45 0 P (μ.1 45 0 p)) 41 0 P (μ.1 41 0 p)).1 12 0 3 = nI (P + 1) := by
    rw [hx_rd, if_neg (by omega), hx_rd, if_neg (by omega), hx_rd, if_pos ⟨rfl, rfl, rfl⟩]
  have v45 : (hs_wI (hs_wI (hs_wI μ 12 0 3 (nI (P + 1))) 45 0 P (μ.1 45 0 p)) 41 0 P (μ.1 41 0 p)).1 45 0 P = μ.1 45 0 p := by
    rw [hx_rd, if_neg (by omega), hx_rd, if_pos ⟨rfl, rfl, rfl⟩]
  have v41 : (hs_wI (hs_wI (hs_wI μ 12 0 3 (nI (P + 1))) 45 0 P (μ.1 45 0 p)) 41 0 P (μ.1 41 0 p)).1 41 0 P = μ.1 41 0 p := by
    rw [hx_rd, if_pos ⟨rfl, rfl, rfl⟩]
  revert f0 r0 v3 v45 v41
  generalize hs_wI (hs_wI (hs_wI μ 12 0 3 (nI (P + 1))) 45 0 P (μ.1 45 0 p)) 41 0 P (μ.1 41 0 p) = ν
  intro f0 r0 v3 v45 v41
  obtain ⟨ν2, e2, f2, g2⟩ := hx_t65 (d + 2) (P := P) (show p < 8 by omega) 6 0 ν (by omega) (hx_rf _ _) (fun i hi => absurd hi (by omega))
  have f3 : hx_fr (fun κ b i => b = 0 ∧ κ = 51 ∧ i = 8) ν2 (hs_wI ν2 51 0 8 (μ.1 44 0 p)) := hx_wr (hx_rf _ _) _ ⟨rfl, rfl, rfl⟩
  obtain ⟨ν4, e4, f4, c1, c2, c3, c4, c5⟩ := hx_comesM d (p := P) (x := 8) hP (by omega) (hs_wI ν2 51 0 8 (μ.1 44 0 p))
  have f5 : hx_fr (fun κ b i => b = 0 ∧ ((κ = 42 ∧ i = P) ∨ (κ = 12 ∧ i = 28))) ν4 (hs_wI (hs_wI ν4 42 0 P (μ.1 42 0 p)) 12 0 28 0) := hx_wr (hx_wr (hx_rf _ _) _ (by omega)) _ (by omega)
  have q : ∀ κ i, κ ≠ 50 → κ ≠ 51 → (hs_wI ν2 51 0 8 (μ.1 44 0 p)).1 κ 0 i = ν.1 κ 0 i := fun κ i a b => by
    rw [f3.1 κ 0 i (by omega), f2.1 κ 0 i (by omega)]
  refine ⟨hs_wI (hs_wI ν4 42 0 P (μ.1 42 0 p)) 12 0 28 0, ?_, ?_, ?_, ?_, ?_, ?_, ?_, ?_, ?_, ?_, ?_⟩
  · rw [show he_M_twin_65 (d + 2) (nI p) (nI P) 0 ν = he_M_twin_65 (d + 2) (nI p) (nI P) (nI 0) ν from rfl, e2, hq_M_twin_65, if_neg (by decide), if_pos (hx_in (by omega) (by omega)), nI_clamp (by omega), f2.1 44 0 p (by omega), r0 44 p (by omega) (by omega) (by omega)]
    show hs_bV (hc_M_comes (d + 2) (nI P) (nI 8) (hs_wI ν2 51 0 8 (μ.1 44 0 p))) _ = _
    rw [e4, hx_bV, if_pos (hx_in (by omega) (by omega)), if_pos (hx_in (by omega) (by omega)), nI_clamp (by omega), f4.1 42 0 p (by omega), q 42 p (by omega) (by omega), r0 42 p (by omega) (by omega) (by omega)]
  · exact hx_tr (hx_tr (hx_tr (hx_tr f0 (hx_mo (fun κ b i z => by unfold hx_yT; omega) f2)) (hx_mo (fun κ b i z => by unfold hx_yT; omega) f3)) (hx_mo (fun κ b i z => by unfold hx_yT; omega) f4)) (hx_mo (fun κ b i z => by unfold hx_yT; omega) f5)
  · rw [f5.1 12 0 3 (by omega), f4.1 12 0 3 (by omega), q 12 3 (by omega) (by omega), v3]
  · rw [hx_rd, if_pos ⟨rfl, rfl, rfl⟩]
  · rw [f5.1 45 0 P (by omega), f4.1 45 0 P (by omega), q 45 P (by omega) (by omega), v45]
  · rw [f5.1 45 0 (8 + P) (by omega), c4]
  · rw [f5.1 45 0 16 (by omega), c5, q 45 16 (by omega) (by omega), r0 45 16 (by omega) (by omega) (by omega)]
  · rw [f5.1 41 0 P (by omega), f4.1 41 0 P (by omega), q 41 P (by omega) (by omega), v41]
  · rw [hx_rd, if_neg (by omega), hx_rd, if_pos ⟨rfl, rfl, rfl⟩]
  · rw [f5.1 44 0 P (by omega), c2, hx_rd, if_pos ⟨rfl, rfl, rfl⟩]
  · intro i hi
    rw [f5.1 43 0 _ (by omega), c3 i hi, f3.1 50 0 _ (by omega), show 6 * 8 + i = 48 + i by omega, g2 i hi, r0 43 _ (by omega) (by omega) (by omega)]
theorem hx_welR {μ μ' : hs_M} {t : hx_St} {P : Nat} (hP : P < 8) {w : Int32} (h : hx_SR μ 45 0 t) (f : ∀ i, ¬ (i = P ∨ i = 8 + P ∨ i = 16) → μ'.1 45 0 i = μ.1 45 0 i) (h1 : μ'.1 45 0 P = w) (h2 : μ'.1 45 0 (8 + P) = 0) (h3 : μ'.1 45 0 16 = (t 16 ||| ((1 : Int32) <<< (nI P &&& 31)))) : hx_SR μ' 45 0 (hx_wel t P w) := by
  intro i hi
  rw [Nat.zero_add]
  by_cases c1 : i = P
  · rw [c1, h1, hx_wel0 t hP]
  by_cases c2 : i = 8 + P
  · rw [c2, h2, hx_wel8 t hP]
  by_cases c3 : i = 16
  · rw [c3, h3, hx_wel16]
  rw [f i (by omega), hx_welO _ _ _ c1 c2 c3, hx_SR0 h hi]
theorem hx_twin (d : Nat) {n : Nat} {E : hx_Env} {t : hx_St} {μ : hs_M} (h : hx_I n E t μ) (x : Int32) : hx_A n μ (hc_H_twin (d + 4) x) (hc_M_twin (d + 4) x) := by
  have h8 := h.1.1.1
  have h0 := hx_I0 (hx_Ia h)
  by_cases c : hx_isA (hx_P E) t x = true
  rotate_left
  · apply hx_Anone h (v := -1)
    · rw [hq_H_twin, hx_there _ h.1 h.2.2.1.1, hx_bI, hx_tn0, if_neg c, hq_H_twin_20]
    · rw [hq_M_twin, hx_isAM _ h0.2.1 h0.2.2.2.1, hx_bI, hx_tn0, if_neg c, hq_M_twin_22]
  by_cases c8 : hx_P E = 8
  · apply hx_Anone h (v := -1)
    · rw [hq_H_twin, hx_there _ h.1 h.2.2.1.1, hx_bI, hx_tn0, if_pos c, h.1.2.1, c8, if_neg (by decide), hq_H_twin_20]
    · rw [hq_M_twin, hx_isAM _ h0.2.1 h0.2.2.2.1, hx_bI, hx_tn0, if_pos c, h0.2.1.2.1, c8, if_pos (by decide), hq_M_twin_22]
  have hP : hx_P E < 8 := by omega
  obtain ⟨p, hp, ex, _⟩ := hx_isAn h8 c
  obtain ⟨w, hw1, hw9, ew⟩ := h.2.2.2.2.1.2.2.2 p hp
  obtain ⟨μa, ea, fa, a1, a2, a3, a4⟩ := hx_cpP (d + 2) h.1 hP hp
  have sa := hx_SFf fa (by intro κ i a b; omega) h.2.2.1
  obtain ⟨μb, eb, fb, sb⟩ := hx_welC (d + 2) sa hP (t p)
  have fc : hx_fr (fun κ b i => b = 0 ∧ ((κ = 8 ∧ i = 9) ∨ (κ = 3 ∧ i = 4))) μb (hs_wI (hs_wI μb 8 0 9 (nI (hx_P E + 1))) 3 0 4 0) := hx_wr (hx_wr (hx_rf _ _) _ (by omega)) _ (by omega)
  have f1 : hx_fr (fun κ b i => b = 0 ∧ ((15 ≤ κ ∧ κ ≤ 17 ∧ i = hx_P E) ∨ (κ = 18 ∧ 6 * hx_P E ≤ i) ∨ κ = 24 ∨ κ = 25 ∨ (κ = 6 ∧ i = 3) ∨ (κ = 8 ∧ i = 9) ∨ (κ = 3 ∧ i = 4))) μ (hs_wI (hs_wI μb 8 0 9 (nI (hx_P E + 1))) 3 0 4 0) := hx_tr (hx_tr (hx_mo (fun κ b i z => by omega) fa) (hx_mo (fun κ b i z => by omega) fb)) (hx_mo (fun κ b i z => by omega) fc)
  have v9 : (hs_wI (hs_wI μb 8 0 9 (nI (hx_P E + 1))) 3 0 4 0).1 8 0 9 = nI (hx_P E + 1) := by
    rw [hx_rd, if_neg (by omega), hx_rd, if_pos ⟨rfl, rfl, rfl⟩]
  have v4 : (hs_wI (hs_wI μb 8 0 9 (nI (hx_P E + 1))) 3 0 4 0).1 3 0 4 = 0 := by
    rw [hx_rd, if_pos ⟨rfl, rfl, rfl⟩]
  have s1 := hx_SFf fc (by intro κ i a b; omega) sb
  have r1 : ∀ κ i, (15 ≤ κ ∧ κ ≤ 18) → (hs_wI (hs_wI μb 8 0 9 (nI (hx_P E + 1))) 3 0 4 0).1 κ 0 i = μa.1 κ 0 i := fun κ i z => by
    rw [fc.1 κ 0 i (by omega), fb.1 κ 0 i (by omega)]
  have vb : μb.1 8 0 9 = nI (hx_P E) := by rw [fb.1 8 0 9 (by omega), fa.1 8 0 9 (by omega), h.1.2.1]
  have eC : hc_H_twin (d + 4) x μ = some (some (vI (nI (hx_P E))), hs_wI (hs_wI μb 8 0 9 (nI (hx_P E + 1))) 3 0 4 0) := by
    rw [hq_H_twin, hx_there _ h.1 h.2.2.1.1, hx_bI, hx_tn0, if_pos c, h.1.2.1, if_pos (show nI (hx_P E) < (8 : Int32) from nI_lt (b := 8) hP (by omega)), ex, ea, hx_bV, if_pos (hx_in (by omega) (by omega)), nI_clamp (by omega), sa.1.1 p (by omega), eb, hx_bV, hx_cntP (d + 2) vb hP, hx_bV, hq_Past_forgetSteps, hx_bV]
  revert f1 v9 v4 s1 r1 eC
  generalize hs_wI (hs_wI μb 8 0 9 (nI (hx_P E + 1))) 3 0 4 0 = μ1
  intro f1 v9 v4 s1 r1 eC
  have fw : hx_fr (fun κ b i => κ = 12 ∧ b = 0 ∧ i = 0) μ1 (hs_wI μ1 12 0 0 0) := hx_wr (hx_rf _ _) _ ⟨rfl, rfl, rfl⟩
  have erw : hx_ER (hs_wI μ1 12 0 0 0) E := hx_ERf fw (by intro κ i a b; unfold hx_rF at a; omega) (hx_ERf f1 (by intro κ i a b; unfold hx_rF at a; omega) h.2.1)
  have srw : hx_SR (hs_wI μ1 12 0 0 0) 45 0 t := hx_SRf fw (by intro i a b; omega) (hx_SRf f1 (by intro i a b; omega) h.2.2.2.1)
  obtain ⟨μ2, e2, f2, g3, g28, g45, g8, g16, g41, g42, g44, g43⟩ := hx_twR (d + 1) hP hp erw.2.1
  have fy : hx_fr (fun κ b i => hx_yT (hx_P E) κ b i ∨ (κ = 12 ∧ b = 0 ∧ i = 0)) μ1 μ2 := hx_tr (hx_mo (fun _ _ _ z => Or.inr z) fw) (hx_mo (fun _ _ _ z => Or.inl z) f2)
  have fz : hx_fr (fun κ b i => (b = 0 ∧ ((15 ≤ κ ∧ κ ≤ 17 ∧ i = hx_P E) ∨ (κ = 18 ∧ 6 * hx_P E ≤ i) ∨ κ = 24 ∨ κ = 25 ∨ (κ = 6 ∧ i = 3) ∨ (κ = 8 ∧ i = 9) ∨ (κ = 3 ∧ i = 4))) ∨ hx_yT (hx_P E) κ b i ∨ (κ = 12 ∧ b = 0 ∧ i = 0)) μ μ2 := hx_tr (hx_mo (fun _ _ _ z => Or.inl z) f1) (hx_mo (fun _ _ _ z => Or.inr z) fy)
  have cy : ∀ κ i, (κ = 8 ∨ (15 ≤ κ ∧ κ ≤ 18) ∨ κ = 5 ∨ κ = 3) → μ2.1 κ 0 i = μ1.1 κ 0 i := fun κ i z => fy.1 κ 0 i (by unfold hx_yT; omega)
  have ok := hx_twok h.1.1 hP hp
  obtain ⟨k0, k1, k2, k3, k4, k5, k6, k7, _⟩ := h.1
  obtain ⟨_, q1, q2, q3, q4, q5, q6, q7, _⟩ := h.2.1
  obtain ⟨_, _, w2, w3, w4, w5, _⟩ := erw
  have hlp := k0.2.1 p hp
  refine hx_Amk (v := nI (hx_P E)) (μ1 := μ1) (μ2 := μ2) (E := hx_twE E p) (t := hx_wel t (hx_P E) (t p)) eC ?_ ?_
  · rw [hq_M_twin, hx_isAM _ (hx_ERf fw (by intro κ i a b; unfold hx_rF at a; omega) (hx_ERf f1 (by intro κ i a b; unfold hx_rF at a; omega) h.2.1)) srw, hx_bI, hx_tn0, if_pos c, show (hs_wI μ1 12 0 0 0).1 12 0 3 = nI (hx_P E) from (hx_ERf fw (by intro κ i a b; unfold hx_rF at a; omega) (hx_ERf f1 (by intro κ i a b; unfold hx_rF at a; omega) h.2.1)).2.1, if_neg (show ¬ nI (hx_P E) = (8 : Int32) from fun y => c8 ((nI_eq (b := 8) (by omega) (by omega)).mp y)), ex, if_pos (hx_in (by omega) (by omega)), if_pos (hx_in (by omega) (by omega)), if_pos (hx_in (by omega) (by omega)), if_pos (hx_in (by omega) (by omega)), nI_clamp (by omega), nI_clamp (by omega), nI_1]
    exact e2
  · refine hx_Igr h f1 fy (fun κ b i z => ?_) (fun κ b i z => ?_) (show hx_P E ≤ hx_P E + 1 by omega) ?_ ?_ ?_ ?_ ?_ ?_ ?_ g28
    · unfold hx_hX hx_gX hx_cF hx_qC
      omega
    · unfold hx_yT at z
      unfold hx_hY hx_gY hx_rF hx_qR
      omega
    · apply hx_ECn fz h.1 ok rfl (fun i => by unfold hx_yT; omega)
      · rw [cy 8 9 (by omega), v9]
        rfl
      · intro i hi
        have hi' : i < hx_P E + 1 := hi
        show _ = if i = hx_P E then hx_Pt E p else hx_Pt E i
        by_cases z : i = hx_P E
        · rw [if_pos z, z, cy 15 _ (by omega), r1 15 _ (by omega), a1]
        · rw [if_neg z, fz.1 15 0 i (by unfold hx_yT; omega), k2 i (by omega)]
      · intro i hi
        have hi' : i < hx_P E + 1 := hi
        show _ = if i = hx_P E then hx_Il E p else hx_Il E i
        by_cases z : i = hx_P E
        · rw [if_pos z, z, cy 16 _ (by omega), r1 16 _ (by omega), a2]
        · rw [if_neg z, fz.1 16 0 i (by unfold hx_yT; omega), k3 i (by omega)]
      · intro i hi
        have hi' : i < hx_P E + 1 := hi
        show _ = nI (if i = hx_P E then hx_Hl E p else hx_Hl E i)
        by_cases z : i = hx_P E
        · rw [if_pos z, z, cy 17 _ (by omega), r1 17 _ (by omega), a3]
        · rw [if_neg z, fz.1 17 0 i (by unfold hx_yT; omega), k4 i (by omega)]
      · intro i k hi hk
        have hi' : i < hx_P E + 1 := hi
        have hk' : k < if i = hx_P E then hx_Hl E p else hx_Hl E i := hk
        show _ = if i = hx_P E then hx_Hb E p k else hx_Hb E i k
        by_cases z : i = hx_P E
        · rw [if_pos z] at hk' ⊢
          rw [z, cy 18 _ (by omega), r1 18 _ (by omega), a4 k hk']
        · rw [if_neg z] at hk' ⊢
          have := k0.2.1 i (by omega)
          rw [fz.1 18 0 _ (by unfold hx_yT; omega), k5 i k (by omega) hk']
      · rw [fz.1 5 0 0 (by unfold hx_yT; omega), k6]
        rfl
      · rw [fz.1 5 0 1 (by unfold hx_yT; omega), k7]
        rfl
    · apply hx_ERn fz h.2.1 ok rfl (fun i => by unfold hx_yT; omega)
      · rw [g3]
        rfl
      · intro i hi
        have hi' : i < hx_P E + 1 := hi
        show _ = if i = hx_P E then hx_Pt E p else hx_Pt E i
        by_cases z : i = hx_P E
        · rw [if_pos z, z, g41, w2 p hp]
        · rw [if_neg z, fz.1 41 0 i (by unfold hx_yT; omega), q2 i (by omega)]
      · intro i hi
        have hi' : i < hx_P E + 1 := hi
        show _ = if i = hx_P E then hx_Il E p else hx_Il E i
        by_cases z : i = hx_P E
        · rw [if_pos z, z, g42, w3 p hp]
        · rw [if_neg z, fz.1 42 0 i (by unfold hx_yT; omega), q3 i (by omega)]
      · intro i hi
        have hi' : i < hx_P E + 1 := hi
        show _ = nI (if i = hx_P E then hx_Hl E p else hx_Hl E i)
        by_cases z : i = hx_P E
        · rw [if_pos z, z, g44, w4 p hp]
        · rw [if_neg z, fz.1 44 0 i (by unfold hx_yT; omega), q4 i (by omega)]
      · intro i k hi hk
        have hi' : i < hx_P E + 1 := hi
        have hk' : k < if i = hx_P E then hx_Hl E p else hx_Hl E i := hk
        show _ = if i = hx_P E then hx_Hb E p k else hx_Hb E i k
        by_cases z : i = hx_P E
        · rw [if_pos z] at hk' ⊢
          rw [z, g43 k (by omega), w5 p k hp hk']
        · rw [if_neg z] at hk' ⊢
          have := k0.2.1 i (by omega)
          rw [fz.1 43 0 _ (by unfold hx_yT; omega), q5 i k (by omega) hk']
      · rw [fz.1 12 0 8 (by unfold hx_yT; omega), q6]
        rfl
      · rw [fz.1 12 0 9 (by unfold hx_yT; omega), q7]
        rfl
    · exact hx_SFf fy (by intro κ i a b; unfold hx_yT at b; omega) s1
    · refine hx_welR hP srw (fun i z => f2.1 45 0 i (by unfold hx_yT; omega)) ?_ g8 ?_
      · rw [g45, hx_SR0 srw (by omega)]
      · rw [g16, hx_SR0 srw (by omega)]
    · have := hx_weltw hP h.2.2.2.2.1 hw1 hw9
      rw [← ew] at this
      exact hx_twm this (by omega)
    · exact hx_iTf fy (by intro κ j i a b; unfold hx_fT at a; unfold hx_yT at b; omega) (hx_iTf f1 (by intro κ j i a b; unfold hx_fT at a; omega) h.2.2.2.2.2.1)
    · rw [cy 3 4 (by omega), v4]
