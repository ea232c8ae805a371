/-! ===== E: set, sheet ===== -/
def hx_zX (κ j i : Nat) : Prop := ((κ = 6 ∨ (24 ≤ κ ∧ κ ≤ 29)) ∧ j ≤ 20) ∨ κ = 3 ∨ hx_qX κ j i
def hx_zY (κ j i : Nat) : Prop := κ = 45 ∨ (κ = 12 ∧ i = 28) ∨ κ = 55 ∨ hx_qY κ j i
/-- the state changed, and what can be undone, and the row -/
theorem hx_Ist {X Y : Nat → Nat → Nat → Prop} {n : Nat} {E : hx_Env} {t t' : hx_St} {μ μ1 μ2 : hs_M} (h : hx_I n E t μ) (f1 : hx_fr X μ μ1) (f2 : hx_fr Y μ1 μ2) (hX : ∀ κ j i, X κ j i → hx_zX κ j i) (hY : ∀ κ j i, Y κ j i → hx_zY κ j i) (hS : hx_SF μ2 0 t') (hR : hx_SR μ2 45 0 t') (ht : hx_tw (hx_P E) (100 * (n + 1)) t') (hr : hx_iR μ2) (hp : hx_iP (hx_P E) (100 * (n + 1)) μ2) : hx_I (n + 1) E t' μ2 := by
  obtain ⟨a, b, c, e, g, h1, h2, h3, h4, h5, h6⟩ := hx_Ix h (hx_mo (Y := hx_zX) hX f1) (hx_mo (Y := hx_zY) hY f2)
  refine ⟨a ?_, b ?_, hS, hR, ht, h1 ?_, hr, hp, h4 ?_, h5 ?_, h6 ?_⟩ <;> intros <;> simp only [hx_cF, hx_rF, hx_fP, hx_fK, hx_fW, hx_fD, hx_fT, hx_zX, hx_zY, hx_qX, hx_qY, hx_qC, hx_qR] at * <;> omega
/-- the row and the past stay -/
theorem hx_Is {X Y : Nat → Nat → Nat → Prop} {n : Nat} {E : hx_Env} {t t' : hx_St} {μ μ1 μ2 : hs_M} (h : hx_I n E t μ) (f1 : hx_fr X μ μ1) (f2 : hx_fr Y μ1 μ2) (hX : ∀ κ j i, X κ j i → ((κ = 6 ∨ (24 ≤ κ ∧ κ ≤ 29)) ∧ j = 0)) (hY : ∀ κ j i, Y κ j i → κ = 45 ∨ (κ = 12 ∧ i = 0)) (hS : hx_SF μ2 0 t') (hR : hx_SR μ2 45 0 t') (ht : hx_tw (hx_P E) (100 * (n + 1)) t') : hx_I (n + 1) E t' μ2 := by
  obtain ⟨_, _, _, _, _, _, h2, h3, _⟩ := hx_Ix h (hx_mo (Y := fun κ j _ => (κ = 6 ∨ (24 ≤ κ ∧ κ ≤ 29)) ∧ j = 0) hX f1) (hx_mo (Y := fun κ _ i => κ = 45 ∨ (κ = 12 ∧ i = 0)) hY f2)
  refine hx_Ist h f1 f2 (fun κ j i x => ?_) (fun κ j i x => ?_) hS hR ht (h2 ?_) (h3 ?_)
  · have := hX κ j i x
    unfold hx_zX
    omega
  · have := hY κ j i x
    unfold hx_zY hx_qY hx_qR
    omega
  · intros
    omega
  · intro κ j i x
    unfold hx_fP at x
    omega
def hx_pw (t : hx_St) (p : Nat) (v : Int32) : hx_St := fun i => if i = p then v else t i
theorem hx_pwO (t : hx_St) {p i : Nat} (v : Int32) (h : i ≠ p) : hx_pw t p v i = t i := if_neg h
theorem hx_pwtw {P W : Nat} (h8 : P ≤ 8) {t : hx_St} (ht : hx_tw P W t) {p : Nat} (hp : p < P) {v : Nat} (hv1 : 1 ≤ v) (hv9 : v ≤ 999) : hx_tw P W (hx_pw t p (nI v)) := by
  obtain ⟨h1, h2, ⟨L, hL, e20, hl⟩, h4⟩ := ht
  refine ⟨?_, ?_, ⟨L, hL, ?_, ?_⟩, ?_⟩
  · rw [hx_pwO _ _ (by omega)]
    exact h1
  · rw [hx_pwO _ _ (by omega)]
    exact h2
  · rw [hx_pwO _ _ (by omega)]
    exact e20
  · intro k hk
    rw [hx_pwO _ _ (by omega), hx_pwO _ _ (by omega), hx_pwO _ _ (by omega)]
    exact hl k hk
  · intro q hq
    by_cases c : q = p
    · exact ⟨v, hv1, hv9, if_pos c⟩
    · rw [hx_pwO _ _ c]
      exact h4 q hq
theorem hx_pwh (t : hx_St) {p : Nat} (hp : p < 8) (v : Int32) : hx_hold (hx_pw t p v) = hx_hold t ∧ hx_holds (hx_pw t p v) = hx_holds t := by
  unfold hx_hold hx_holds
  rw [hx_pwO _ _ (by omega)]
  exact ⟨hx_hcc _ (fun k _ => hx_pwO _ _ (by omega)), hx_hbc _ (fun k _ => hx_pwO _ _ (by omega))⟩
theorem hx_SFw {μ : hs_M} {t : hx_St} (hs : hx_SF μ 0 t) {p : Nat} (hp : p < 8) (v : Int32) : hx_SF (hs_wI μ 24 0 p v) 0 (hx_pw t p v) := by
  obtain ⟨⟨h1, h2, h3, h4, h5, h6, h7, h8⟩, k6, k26, k27, k28, k29⟩ := hs
  have fh := hx_pwh t hp v
  refine ⟨⟨?_, ?_, ?_, ?_, ?_, ?_, ?_, ?_⟩, ?_, ?_, ?_, ?_, ?_⟩
  · intro i hi
    rw [hx_rd]
    unfold hx_pw
    by_cases c : i = p
    · rw [if_pos ⟨rfl, c, rfl⟩, if_pos c]
    · rw [if_neg (by omega), if_neg c, h1 i hi]
  · intro i hi
    rw [hx_rd, if_neg (by omega), hx_pwO _ _ (by omega), h2 i hi]
  · rw [hx_rd, if_neg (by omega), hx_pwO _ _ (by omega), h3]
  · rw [hx_rd, if_neg (by omega), hx_pwO _ _ (by omega), h4]
  · rw [hx_rd, if_neg (by omega), hx_pwO _ _ (by omega), hx_pwO _ _ (by omega), h5]
  · rw [hx_rd, if_neg (by omega), hx_pwO _ _ (by omega), h6]
  · rw [hx_rd, if_neg (by omega), fh.2, h7]
  · rw [hx_rd, if_neg (by omega), fh.1, h8]
  · rw [hx_rd, if_neg (by omega), hx_pwO _ _ (by omega), k6]
  · intro i hi
    rw [hx_rd, if_neg (by omega), hx_pwO _ _ (by omega), k26 i hi]
  · intro i hi
    rw [hx_rd, if_neg (by omega), hx_pwO _ _ (by omega), k27 i hi]
  · intro i hi
    rw [hx_rd, if_neg (by omega), hx_pwO _ _ (by omega), k28 i hi]
  · intro i hi
    rw [hx_rd, if_neg (by omega), hx_pwO _ _ (by omega), k29 i hi]
theorem hx_exch (d : Nat) {κ : Nat} (hκ : κ = 24 ∨ κ = 15 ∨ κ = 16) {p : Nat} (hp : p < 8) (v : Int32) (μ : hs_M) : hc_H_exchange (d + 1) κ (nI p) v μ = some (some (vI (μ.1 κ 0 p)), hs_wI μ κ 0 p v) := by
  rw [hq_H_exchange _ _ _ _ _ hκ, if_neg (nI_pos (by omega)), if_pos (show nI p < (8 : Int32) from nI_lt (b := 8) (by omega) (by omega)), if_pos (hx_in hp (by omega)), if_pos (hx_in hp (by omega)), nI_clamp (by omega)]
theorem hx_setT {n : Nat} {E : hx_Env} {t : hx_St} {μ : hs_M} (h : hx_I n E t μ) {p : Nat} (hp : p < hx_P E) (v : Int32) : hx_I (n + 1) (hx_uT E p v) t (hs_wI (hs_wI (hs_wI μ 15 0 p v) 12 0 0 0) 41 0 p v) := by
  obtain ⟨k0, k1, k2, k3, k4, k5, k6, k7, _⟩ := h.1
  obtain ⟨_, r1, r2, r3, r4, r5, r6, r7, _⟩ := h.2.1
  have f1 : hx_fr (fun κ _ _ => κ = 15) μ (hs_wI μ 15 0 p v) := hx_wr (hx_rf _ _) _ (by omega)
  have f2 : hx_fr (fun κ _ i => (κ = 12 ∧ i = 0) ∨ κ = 41) (hs_wI μ 15 0 p v) (hs_wI (hs_wI (hs_wI μ 15 0 p v) 12 0 0 0) 41 0 p v) := hx_wr (hx_wr (hx_rf _ _) _ (by omega)) _ (by omega)
  have r : ∀ κ i, κ ≠ 15 → κ ≠ 41 → ¬ (κ = 12 ∧ i = 0) → (hs_wI (hs_wI (hs_wI μ 15 0 p v) 12 0 0 0) 41 0 p v).1 κ 0 i = μ.1 κ 0 i := fun κ i a b c => by rw [f2.1 κ 0 i (by omega), f1.1 κ 0 i a]
  have ok : hx_ok (hx_uT E p v) := k0
  have f12 : hx_fr (fun κ _ i => κ = 15 ∨ (κ = 12 ∧ i = 0) ∨ κ = 41) μ (hs_wI (hs_wI (hs_wI μ 15 0 p v) 12 0 0 0) 41 0 p v) := hx_tr (hx_mo (fun _ _ _ x => Or.inl x) f1) (hx_mo (fun _ _ _ x => Or.inr x) f2)
  apply hx_Ie (E' := hx_uT E p v) h f1 f2 (fun κ j i x => by unfold hx_cF; omega) (fun κ j i x => by unfold hx_rF; omega) rfl
  · apply hx_ECn f12 h.1 ok rfl (fun i => by omega)
    · rw [r 8 9 (by omega) (by omega) (by omega)]; exact k1
    · intro i hi
      rw [hx_rd, if_neg (by omega), hx_rd, if_neg (by omega), hx_rd]
      show _ = hx_up (hx_Pt E) p v i
      unfold hx_up
      by_cases c : i = p
      · rw [if_pos ⟨rfl, c, rfl⟩, if_pos c]
      · rw [if_neg (by omega), if_neg c]
        exact k2 i hi
    · intro i hi; rw [r 16 i (by omega) (by omega) (by omega)]; exact k3 i hi
    · intro i hi; rw [r 17 i (by omega) (by omega) (by omega)]; exact k4 i hi
    · intro i k hi hk; rw [r 18 _ (by omega) (by omega) (by omega)]; exact k5 i k hi hk
    · rw [r 5 0 (by omega) (by omega) (by omega)]; exact k6
    · rw [r 5 1 (by omega) (by omega) (by omega)]; exact k7
  · apply hx_ERn f12 h.2.1 ok rfl (fun i => by omega)
    · rw [r 12 3 (by omega) (by omega) (by omega)]; exact r1
    · intro i hi
      rw [hx_rd]
      show _ = hx_up (hx_Pt E) p v i
      unfold hx_up
      by_cases c : i = p
      · rw [if_pos ⟨rfl, c, rfl⟩, if_pos c]
      · rw [if_neg (by omega), hx_rd, if_neg (by omega), hx_rd, if_neg (by omega), if_neg c]
        exact r2 i hi
    · intro i hi; rw [r 42 i (by omega) (by omega) (by omega)]; exact r3 i hi
    · intro i hi; rw [r 44 i (by omega) (by omega) (by omega)]; exact r4 i hi
    · intro i k hi hk; rw [r 43 _ (by omega) (by omega) (by omega)]; exact r5 i k hi hk
    · rw [r 12 8 (by omega) (by omega) (by omega)]; exact r6
    · rw [r 12 9 (by omega) (by omega) (by omega)]; exact r7
theorem hx_setL {n : Nat} {E : hx_Env} {t : hx_St} {μ : hs_M} (h : hx_I n E t μ) {p : Nat} (hp : p < hx_P E) {v : Nat} (hv : v ≤ 9) : hx_I (n + 1) (hx_uL E p (nI v)) t (hs_wI (hs_wI (hs_wI μ 16 0 p (nI v)) 12 0 0 0) 42 0 p (nI v)) := by
  obtain ⟨k0, k1, k2, k3, k4, k5, k6, k7, _⟩ := h.1
  obtain ⟨_, r1, r2, r3, r4, r5, r6, r7, _⟩ := h.2.1
  have f1 : hx_fr (fun κ _ _ => κ = 16) μ (hs_wI μ 16 0 p (nI v)) := hx_wr (hx_rf _ _) _ (by omega)
  have f2 : hx_fr (fun κ _ i => (κ = 12 ∧ i = 0) ∨ κ = 42) (hs_wI μ 16 0 p (nI v)) (hs_wI (hs_wI (hs_wI μ 16 0 p (nI v)) 12 0 0 0) 42 0 p (nI v)) := hx_wr (hx_wr (hx_rf _ _) _ (by omega)) _ (by omega)
  have r : ∀ κ i, κ ≠ 16 → κ ≠ 42 → ¬ (κ = 12 ∧ i = 0) → (hs_wI (hs_wI (hs_wI μ 16 0 p (nI v)) 12 0 0 0) 42 0 p (nI v)).1 κ 0 i = μ.1 κ 0 i := fun κ i a b c => by rw [f2.1 κ 0 i (by omega), f1.1 κ 0 i a]
  have ok : hx_ok (hx_uL E p (nI v)) := by
    refine ⟨k0.1, k0.2.1, k0.2.2.1, k0.2.2.2.1, ?_, k0.2.2.2.2.2⟩
    intro i hi
    show ∃ n, n ≤ 9 ∧ hx_up (hx_Il E) p (nI v) i = nI n
    unfold hx_up
    by_cases c : i = p
    · exact ⟨v, hv, if_pos c⟩
    · rw [if_neg c]
      exact k0.2.2.2.2.1 i hi
  have f12 : hx_fr (fun κ _ i => κ = 16 ∨ (κ = 12 ∧ i = 0) ∨ κ = 42) μ (hs_wI (hs_wI (hs_wI μ 16 0 p (nI v)) 12 0 0 0) 42 0 p (nI v)) := hx_tr (hx_mo (fun _ _ _ x => Or.inl x) f1) (hx_mo (fun _ _ _ x => Or.inr x) f2)
  apply hx_Ie (E' := hx_uL E p (nI v)) h f1 f2 (fun κ j i x => by unfold hx_cF; omega) (fun κ j i x => by unfold hx_rF; omega) rfl
  · apply hx_ECn f12 h.1 ok rfl (fun i => by omega)
    · rw [r 8 9 (by omega) (by omega) (by omega)]; exact k1
    · intro i hi; rw [r 15 i (by omega) (by omega) (by omega)]; exact k2 i hi
    · intro i hi
      rw [hx_rd, if_neg (by omega), hx_rd, if_neg (by omega), hx_rd]
      show _ = hx_up (hx_Il E) p (nI v) i
      unfold hx_up
      by_cases c : i = p
      · rw [if_pos ⟨rfl, c, rfl⟩, if_pos c]
      · rw [if_neg (by omega), if_neg c]
        exact k3 i hi
    · intro i hi; rw [r 17 i (by omega) (by omega) (by omega)]; exact k4 i hi
    · intro i k hi hk; rw [r 18 _ (by omega) (by omega) (by omega)]; exact k5 i k hi hk
    · rw [r 5 0 (by omega) (by omega) (by omega)]; exact k6
    · rw [r 5 1 (by omega) (by omega) (by omega)]; exact k7
  · apply hx_ERn f12 h.2.1 ok rfl (fun i => by omega)
    · rw [r 12 3 (by omega) (by omega) (by omega)]; exact r1
    · intro i hi; rw [r 41 i (by omega) (by omega) (by omega)]; exact r2 i hi
    · intro i hi
      rw [hx_rd]
      show _ = hx_up (hx_Il E) p (nI v) i
      unfold hx_up
      by_cases c : i = p
      · rw [if_pos ⟨rfl, c, rfl⟩, if_pos c]
      · rw [if_neg (by omega), hx_rd, if_neg (by omega), hx_rd, if_neg (by omega), if_neg c]
        exact r3 i hi
    · intro i hi; rw [r 44 i (by omega) (by omega) (by omega)]; exact r4 i hi
    · intro i k hi hk; rw [r 43 _ (by omega) (by omega) (by omega)]; exact r5 i k hi hk
    · rw [r 12 8 (by omega) (by omega) (by omega)]; exact r6
    · rw [r 12 9 (by omega) (by omega) (by omega)]; exact r7
theorem hx_set (d : Nat) {n : Nat} {E : hx_Env} {t : hx_St} {μ : hs_M} (h : hx_I n E t μ) (x y v : Int32) : hx_A n μ (hc_H_set (d + 3) x y v) (hc_M_set (d + 3) x y v) := by
  have h8 := h.1.1.1
  have h0 := hx_I0 (hx_Ia h)
  have e0 : (0 : Int32).toInt = 0 := by decide
  have e4 : (4 : Int32).toInt = 4 := by decide
  have e9 : (9 : Int32).toInt = 9 := by decide
  have e1 : (1 : Int32).toInt = 1 := by decide
  have ec : ∀ A B : Option (Option hs_V × hs_M), (if v < 1 then A else if 999 < v then A else B) = if hx_rg 1 999 v = true then B else A := fun A B => hx_if2 v 1 999 A B
  have er : hx_rg (Int64.toInt 1) (Int64.toInt 999) v = hx_rg 1 999 v := rfl
  have er3 : hx_rg (Int64.toInt 0) (Int64.toInt 3) v = hx_rg 0 3 v := rfl
  have er9 : hx_rg (Int64.toInt 0) (Int64.toInt 9) v = hx_rg 0 9 v := rfl
  by_cases c : hx_isP (hx_P E) y = true
  rotate_left
  · apply hx_Anone h (v := -1)
    · rw [hq_H_set, hx_thas _ h.1, hx_bI, hx_tn0, if_neg c, hq_H_set_15]
    · rw [hq_M_set, hx_inR, hx_inR, hx_inR, hx_bI, hx_bI, hx_bI, hx_isPM _ h0.2.1, hx_bI, hx_tn0, if_neg c, hq_M_set_75, hx_bI, hx_tn0, if_neg c, hq_M_set_75, hx_tn0, hx_bI, hx_tn0, if_neg c, hq_M_set_75, hq_M_set_59, hx_isPM _ h0.2.1, hx_bI, ite_self, hq_M_set_75, ite_self, ite_self, ite_self, ite_self]
  obtain ⟨p, hp, ey⟩ := hx_isPn c
  have fin : ∀ κ μ', κ = 117 ∨ κ = 8 → (if hs_in (nI p) κ = true then (if hs_in (nI p) κ = true then μ' else none) else none) = (μ' : Option (Option hs_V × hs_M)) := fun κ μ' hκ => by
    rw [if_pos (hx_in (by omega) (by omega)), if_pos (hx_in (by omega) (by omega))]
  by_cases x0 : x = 0
  · have x1 : ¬ x = 1 := by rw [x0]; decide
    have x2 : ¬ x = 2 := by rw [x0]; decide
    by_cases c2 : hx_rg 1 999 v = true
    · obtain ⟨k, hk1, hk9, ev⟩ := hx_rg1 (n := 999) c2
      have nv : ¬ v < 0 := by rw [ev]; exact nI_pos (by omega)
      refine hx_Amk (v := t p) (μ1 := hs_wI μ 24 0 p v) (μ2 := hs_wI (hs_wI (hs_wI μ 24 0 p v) 12 0 0 0) 45 0 p v) (E := E) (t := hx_pw t p v) ?_ ?_ ?_
      · rw [hq_H_set, hx_thas _ h.1, hx_bI, hx_tn0, if_pos c, if_neg nv, if_pos x0, ec, if_pos c2, ey, hx_exch _ (by omega) (by omega), hx_bI, h.2.2.1.1.1 p (by omega)]
      · have hI : hx_ER (hs_wI (hs_wI μ 24 0 p v) 12 0 0 0) E := hx_ERf (X := fun κ _ i => κ = 24 ∨ (κ = 12 ∧ i = 0)) (hx_wr (hx_wr (hx_rf _ _) _ (by omega)) _ (by omega)) (by intro κ i a b; unfold hx_rF at a; omega) h.2.1
        rw [hq_M_set, if_pos x0, hx_inR, hx_bI, hx_isPM _ hI, hx_bI, hx_tn0, if_pos c, hx_tn0, er, if_pos c2, if_pos x0, ey, fin 117 _ (by omega), nI_clamp (by omega), hx_rd, if_neg (by omega), hx_rd, if_neg (by omega), hx_SR0 h.2.2.2.1 (by omega)]
      · have f1 : hx_fr (fun κ j _ => κ = 24 ∧ j = 0) μ (hs_wI μ 24 0 p v) := hx_wr (hx_rf _ _) _ ⟨rfl, rfl⟩
        have f2 : hx_fr (fun κ _ i => κ = 45 ∨ (κ = 12 ∧ i = 0)) (hs_wI μ 24 0 p v) (hs_wI (hs_wI (hs_wI μ 24 0 p v) 12 0 0 0) 45 0 p v) := hx_wr (hx_wr (hx_rf _ _) _ (by omega)) _ (by omega)
        apply hx_Is h f1 f2 (fun κ j i x => by omega) (fun κ j i x => x)
        · exact hx_SFf f2 (by intro κ i a b; omega) (hx_SFw h.2.2.1 (by omega) v)
        · apply hx_SRw (t := t) (t' := hx_pw t p v)
          · exact hx_SRf (X := fun κ _ i => κ = 24 ∨ (κ = 12 ∧ i = 0)) (hx_wr (hx_wr (hx_rf _ _) _ (by omega)) _ (by omega)) (by intro i a b; omega) h.2.2.2.1
          · exact if_pos rfl
          · intro i _ z
            exact if_neg z
        · rw [ev]
          exact hx_twm (hx_pwtw h8 h.2.2.2.2.1 hp hk1 hk9) (by omega)
    · have c2' : ¬ (1 ≤ v.toInt ∧ v.toInt ≤ 999) := fun z => c2 (decide_eq_true z)
      apply hx_Anone h (v := -1)
      · rw [hq_H_set, hx_thas _ h.1, hx_bI, hx_tn0, if_pos c, hq_H_set_15, if_pos x0, ec, if_neg c2, hq_H_set_46, if_neg x1, hq_H_set_69, if_neg x2, hq_H_set_93, ite_self]
      · rw [hq_M_set, if_pos x0, hx_inR, hx_bI, hx_isPM _ h0.2.1, hx_bI, hx_tn0, if_pos c, hx_tn0, er, if_neg c2, hq_M_set_75]
  by_cases x1 : x = 1
  · have x2 : ¬ x = 2 := by rw [x1]; decide
    by_cases c2 : hx_rg 0 3 v = true
    · obtain ⟨k, hk, ev⟩ := hx_rgN (n := 3) c2
      have nv : ¬ v < 0 := by rw [ev]; exact nI_pos (by omega)
      have v4 : v < 4 := by rw [ev]; exact nI_lt (b := 4) (by omega) (by omega)
      refine hx_Amk (v := hx_Pt E p) (μ1 := hs_wI μ 15 0 p v) ?_ ?_ (hx_setT h hp v)
      · rw [hq_H_set, hx_thas _ h.1, hx_bI, hx_tn0, if_pos c, if_neg nv, if_neg x0, hq_H_set_46, if_pos x1, if_pos v4, ey, hx_exch _ (by omega) (by omega), hx_bI, h.1.2.2.1 p hp]
      · have hI : hx_ER (hs_wI (hs_wI μ 15 0 p v) 12 0 0 0) E := hx_ERf (X := fun κ _ i => κ = 15 ∨ (κ = 12 ∧ i = 0)) (hx_wr (hx_wr (hx_rf _ _) _ (by omega)) _ (by omega)) (by intro κ i a b; unfold hx_rF at a; omega) h.2.1
        rw [hq_M_set, if_neg x0, if_pos x1, hx_inR, hx_bI, hx_isPM _ hI, hx_bI, hx_tn0, if_pos c, hx_tn0, er3, if_pos c2, if_neg x0, if_pos x1, ey, fin 8 _ (by omega), nI_clamp (by omega), hI.2.2.1 p hp]
    · have c2' : ¬ (0 ≤ v.toInt ∧ v.toInt ≤ 3) := fun z => c2 (decide_eq_true z)
      apply hx_Anone h (v := -1)
      · rw [hq_H_set, hx_thas _ h.1, hx_bI, hx_tn0, if_pos c, hq_H_set_15, if_neg x0, hq_H_set_46, if_pos x1, hq_H_set_69, if_neg x2, hq_H_set_93]
        by_cases z : v < 0
        · rw [if_pos z]
        · rw [if_neg z, if_neg (by rw [hx_li] at *; omega)]
      · rw [hq_M_set, if_neg x0, if_pos x1, hx_inR, hx_bI, hx_isPM _ h0.2.1, hx_bI, hx_tn0, if_pos c, hx_tn0, er3, if_neg c2, hq_M_set_75]
  by_cases x2 : x = 2
  · by_cases c2 : hx_rg 0 9 v = true
    · obtain ⟨k, hk, ev⟩ := hx_rgN (n := 9) c2
      have nv : ¬ v < 0 := by rw [ev]; exact nI_pos (by omega)
      have v9 : ¬ 9 < v := by rw [ev]; exact nI_nlt (a := 9) hk (by omega)
      have hs := hx_setL h hp hk
      rw [← ev] at hs
      refine hx_Amk (v := hx_Il E p) (μ1 := hs_wI μ 16 0 p v) ?_ ?_ hs
      · rw [hq_H_set, hx_thas _ h.1, hx_bI, hx_tn0, if_pos c, if_neg nv, if_neg x0, hq_H_set_46, if_neg x1, hq_H_set_69, if_pos x2, if_neg v9, ey, hx_exch _ (by omega) (by omega), hx_bI, h.1.2.2.2.1 p hp]
      · have hI : hx_ER (hs_wI (hs_wI μ 16 0 p v) 12 0 0 0) E := hx_ERf (X := fun κ _ i => κ = 16 ∨ (κ = 12 ∧ i = 0)) (hx_wr (hx_wr (hx_rf _ _) _ (by omega)) _ (by omega)) (by intro κ i a b; unfold hx_rF at a; omega) h.2.1
        rw [hq_M_set, if_neg x0, if_neg x1, if_pos x2, hx_inR, hx_bI, hx_tn0, er9, if_pos c2, hx_isPM _ hI, hx_bI, hx_tn0, if_pos c, if_neg x0, if_neg x1, ey, fin 8 _ (by omega), nI_clamp (by omega), hI.2.2.2.1 p hp]
    · have c2' : ¬ (0 ≤ v.toInt ∧ v.toInt ≤ 9) := fun z => c2 (decide_eq_true z)
      apply hx_Anone h (v := -1)
      · rw [hq_H_set, hx_thas _ h.1, hx_bI, hx_tn0, if_pos c, hq_H_set_15, if_neg x0, hq_H_set_46, if_neg x1, hq_H_set_69, if_pos x2, hq_H_set_93]
        by_cases z : v < 0
        · rw [if_pos z]
        · rw [if_neg z, if_pos (by rw [hx_li] at *; omega)]
      · rw [hq_M_set, if_neg x0, if_neg x1, if_pos x2, hx_inR, hx_bI, hx_tn0, er9, if_neg c2, hq_M_set_59, hx_isPM _ h0.2.1, hx_bI, ite_self, hq_M_set_75]
  · apply hx_Anone h (v := -1)
    · rw [hq_H_set, hx_thas _ h.1, hx_bI, hx_tn0, if_pos c, hq_H_set_15, if_neg x0, hq_H_set_46, if_neg x1, hq_H_set_69, if_neg x2, hq_H_set_93, ite_self]
    · rw [hq_M_set, if_neg x0, if_neg x1, if_neg x2, hq_M_set_59, hx_isPM _ h0.2.1, hx_bI, ite_self, hq_M_set_75]
