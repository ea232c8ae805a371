/-! ===== E: scale, set, sheet ===== -/
/-- the town changed in part: what is asked of it anew -/
theorem hx_ECn {X : Nat → Nat → Nat → Prop} {μ μ' : hs_M} (f : hx_fr X μ μ') {E E' : hx_Env} (h : hx_EC μ E) (hok : hx_ok E') (hV : hx_V E' = hx_V E) (hX : ∀ i, ¬ X 10 0 3 ∧ ¬ X 21 0 i) (h1 : μ'.1 8 0 9 = nI (hx_P E')) (h2 : ∀ i, i < hx_P E' → μ'.1 15 0 i = hx_Pt E' i) (h3 : ∀ i, i < hx_P E' → μ'.1 16 0 i = hx_Il E' i) (h4 : ∀ i, i < hx_P E' → μ'.1 17 0 i = nI (hx_Hl E' i)) (h5 : ∀ i k, i < hx_P E' → k < hx_Hl E' i → μ'.1 18 0 (6 * i + k) = hx_Hb E' i k) (h6 : μ'.1 5 0 0 = nI (hx_G E')) (h7 : μ'.1 5 0 1 = hx_O E') : hx_EC μ' E' := by
  obtain ⟨n, a1, a2, a3⟩ := h.2.2.2.2.2.2.2.2
  refine ⟨hok, h1, h2, h3, h4, h5, h6, h7, n, a1, ?_, ?_⟩
  · rw [f.1 10 0 3 (hX 0).1, a2]
  · have e : (fun k => μ'.1 21 0 k) = (fun k => μ.1 21 0 k) := funext fun k => f.1 21 0 k (hX k).2
    rw [e, hV]
    exact a3
theorem hx_ERn {X : Nat → Nat → Nat → Prop} {μ μ' : hs_M} (f : hx_fr X μ μ') {E E' : hx_Env} (h : hx_ER μ E) (hok : hx_ok E') (hV : hx_V E' = hx_V E) (hX : ∀ i, ¬ X 12 0 24 ∧ ¬ X 52 0 i) (h1 : μ'.1 12 0 3 = nI (hx_P E')) (h2 : ∀ i, i < hx_P E' → μ'.1 41 0 i = hx_Pt E' i) (h3 : ∀ i, i < hx_P E' → μ'.1 42 0 i = hx_Il E' i) (h4 : ∀ i, i < hx_P E' → μ'.1 44 0 i = nI (hx_Hl E' i)) (h5 : ∀ i k, i < hx_P E' → k < hx_Hl E' i → μ'.1 43 0 (6 * i + k) = hx_Hb E' i k) (h6 : μ'.1 12 0 8 = nI (hx_G E')) (h7 : μ'.1 12 0 9 = hx_O E') : hx_ER μ' E' := by
  obtain ⟨n, a1, a2, a3, a4⟩ := h.2.2.2.2.2.2.2.2
  refine ⟨hok, h1, h2, h3, h4, h5, h6, h7, n, a1, ?_, ?_, ?_⟩
  · rw [f.1 12 0 24 (hX 0).1, a2]
  · intro k hk
    rw [f.1 52 0 k (hX k).2]
    exact a3 k hk
  · have e : (fun k => μ'.1 52 0 k) = (fun k => μ.1 52 0 k) := funext fun k => f.1 52 0 k (hX k).2
    rw [e, hV]
    exact a4
def hx_uG (E : hx_Env) (g : Nat) : hx_Env := (hx_P E, hx_Pt E, hx_Il E, hx_Hl E, hx_Hb E, g, hx_O E, hx_V E)
def hx_uO (E : hx_Env) (o : Int32) : hx_Env := (hx_P E, hx_Pt E, hx_Il E, hx_Hl E, hx_Hb E, hx_G E, o, hx_V E)
def hx_uT (E : hx_Env) (p : Nat) (v : Int32) : hx_Env := (hx_P E, hx_up (hx_Pt E) p v, hx_Il E, hx_Hl E, hx_Hb E, hx_G E, hx_O E, hx_V E)
def hx_uL (E : hx_Env) (p : Nat) (v : Int32) : hx_Env := (hx_P E, hx_Pt E, hx_up (hx_Il E) p v, hx_Hl E, hx_Hb E, hx_G E, hx_O E, hx_V E)
/-- the town alone changed -/
theorem hx_Ie {X Y : Nat → Nat → Nat → Prop} {n : Nat} {E E' : hx_Env} {t : hx_St} {μ μ1 μ2 : hs_M} (h : hx_I n E t μ) (f1 : hx_fr X μ μ1) (f2 : hx_fr Y μ1 μ2) (hX : ∀ κ j i, X κ j i → hx_cF κ i) (hY : ∀ κ j i, Y κ j i → hx_rF κ i ∨ (κ = 12 ∧ i = 0)) (hP : hx_P E' = hx_P E) (h1 : hx_EC μ2 E') (h2 : hx_ER μ2 E') : hx_I (n + 1) E' t μ2 := by
  obtain ⟨a, b, c, e, g, h1', h2', h3, h4, h5, h6⟩ := hx_Ix h (hx_mo (Y := fun κ _ i => hx_cF κ i) hX f1) (hx_mo (Y := fun κ _ i => hx_rF κ i ∨ (κ = 12 ∧ i = 0)) hY f2)
  unfold hx_I
  rw [hP]
  refine ⟨h1, h2, c ?_, e ?_, g, h1' ?_, h2' ?_, h3 ?_, h4 ?_, h5 ?_, h6 ?_⟩ <;> intros <;> simp only [hx_cF, hx_rF, hx_fP, hx_fK, hx_fW, hx_fD, hx_fT] at * <;> omega
theorem hx_scaleG (d : Nat) {n : Nat} {E : hx_Env} {t : hx_St} {μ : hs_M} (h : hx_I n E t μ) {g : Nat} (hg1 : 1 ≤ g) (hg9 : g ≤ 9) : hx_I (n + 1) (hx_uG E g) t (hs_wI (hs_wI (hs_wI μ 5 0 0 (nI g)) 12 0 0 0) 12 0 8 (nI g)) := by
  obtain ⟨k0, k1, k2, k3, k4, k5, k6, k7, _⟩ := h.1
  obtain ⟨_, r1, r2, r3, r4, r5, r6, r7, _⟩ := h.2.1
  have f1 : hx_fr (fun κ _ i => κ = 5 ∧ i = 0) μ (hs_wI μ 5 0 0 (nI g)) := hx_wr (hx_rf _ _) _ (by omega)
  have f2 : hx_fr (fun κ _ i => κ = 12 ∧ (i = 0 ∨ i = 8)) (hs_wI μ 5 0 0 (nI g)) (hs_wI (hs_wI (hs_wI μ 5 0 0 (nI g)) 12 0 0 0) 12 0 8 (nI g)) := hx_wr (hx_wr (hx_rf _ _) _ (by omega)) _ (by omega)
  have r : ∀ κ i, ¬ (κ = 5 ∧ i = 0) → ¬ (κ = 12 ∧ (i = 0 ∨ i = 8)) → (hs_wI (hs_wI (hs_wI μ 5 0 0 (nI g)) 12 0 0 0) 12 0 8 (nI g)).1 κ 0 i = μ.1 κ 0 i := fun κ i a b => by rw [f2.1 κ 0 i b, f1.1 κ 0 i a]
  have ok : hx_ok (hx_uG E g) := ⟨k0.1, k0.2.1, hg1, hg9, k0.2.2.2.2.1, k0.2.2.2.2.2⟩
  have f12 : hx_fr (fun κ _ i => (κ = 5 ∧ i = 0) ∨ (κ = 12 ∧ (i = 0 ∨ i = 8))) μ (hs_wI (hs_wI (hs_wI μ 5 0 0 (nI g)) 12 0 0 0) 12 0 8 (nI g)) := hx_tr (hx_mo (fun _ _ _ x => Or.inl x) f1) (hx_mo (fun _ _ _ x => Or.inr x) f2)
  apply hx_Ie (E' := hx_uG E g) h f1 f2 (fun κ j i x => by unfold hx_cF; omega) (fun κ j i x => by unfold hx_rF; omega) rfl
  · apply hx_ECn f12 h.1 ok rfl (fun i => by omega)
    · rw [r 8 9 (by omega) (by omega)]; exact k1
    · intro i hi; rw [r 15 i (by omega) (by omega)]; exact k2 i hi
    · intro i hi; rw [r 16 i (by omega) (by omega)]; exact k3 i hi
    · intro i hi; rw [r 17 i (by omega) (by omega)]; exact k4 i hi
    · intro i k hi hk; rw [r 18 _ (by omega) (by omega)]; exact k5 i k hi hk
    · rw [hx_rd, if_neg (by omega), hx_rd, if_neg (by omega), hx_rd, if_pos ⟨rfl, rfl, rfl⟩]; rfl
    · rw [r 5 1 (by omega) (by omega)]; exact k7
  · apply hx_ERn f12 h.2.1 ok rfl (fun i => by omega)
    · rw [r 12 3 (by omega) (by omega)]; exact r1
    · intro i hi; rw [r 41 i (by omega) (by omega)]; exact r2 i hi
    · intro i hi; rw [r 42 i (by omega) (by omega)]; exact r3 i hi
    · intro i hi; rw [r 44 i (by omega) (by omega)]; exact r4 i hi
    · intro i k hi hk; rw [r 43 _ (by omega) (by omega)]; exact r5 i k hi hk
    · rw [hx_rd, if_pos ⟨rfl, rfl, rfl⟩]; rfl
    · rw [r 12 9 (by omega) (by omega)]; exact r7
theorem hx_scaleO (d : Nat) {n : Nat} {E : hx_Env} {t : hx_St} {μ : hs_M} (h : hx_I n E t μ) {o : Int32} (ho1 : -9 ≤ o.toInt) (ho2 : o.toInt ≤ 9) : hx_I (n + 1) (hx_uO E o) t (hs_wI (hs_wI (hs_wI μ 5 0 1 o) 12 0 0 0) 12 0 9 o) := by
  obtain ⟨k0, k1, k2, k3, k4, k5, k6, k7, _⟩ := h.1
  obtain ⟨_, r1, r2, r3, r4, r5, r6, r7, _⟩ := h.2.1
  have f1 : hx_fr (fun κ _ i => κ = 5 ∧ i = 1) μ (hs_wI μ 5 0 1 o) := hx_wr (hx_rf _ _) _ (by omega)
  have f2 : hx_fr (fun κ _ i => κ = 12 ∧ (i = 0 ∨ i = 9)) (hs_wI μ 5 0 1 o) (hs_wI (hs_wI (hs_wI μ 5 0 1 o) 12 0 0 0) 12 0 9 o) := hx_wr (hx_wr (hx_rf _ _) _ (by omega)) _ (by omega)
  have r : ∀ κ i, ¬ (κ = 5 ∧ i = 1) → ¬ (κ = 12 ∧ (i = 0 ∨ i = 9)) → (hs_wI (hs_wI (hs_wI μ 5 0 1 o) 12 0 0 0) 12 0 9 o).1 κ 0 i = μ.1 κ 0 i := fun κ i a b => by rw [f2.1 κ 0 i b, f1.1 κ 0 i a]
  have ok : hx_ok (hx_uO E o) := ⟨k0.1, k0.2.1, k0.2.2.1, k0.2.2.2.1, k0.2.2.2.2.1, ho1, ho2⟩
  have f12 : hx_fr (fun κ _ i => (κ = 5 ∧ i = 1) ∨ (κ = 12 ∧ (i = 0 ∨ i = 9))) μ (hs_wI (hs_wI (hs_wI μ 5 0 1 o) 12 0 0 0) 12 0 9 o) := hx_tr (hx_mo (fun _ _ _ x => Or.inl x) f1) (hx_mo (fun _ _ _ x => Or.inr x) f2)
  apply hx_Ie (E' := hx_uO E o) h f1 f2 (fun κ j i x => by unfold hx_cF; omega) (fun κ j i x => by unfold hx_rF; omega) rfl
  · apply hx_ECn f12 h.1 ok rfl (fun i => by omega)
    · rw [r 8 9 (by omega) (by omega)]; exact k1
    · intro i hi; rw [r 15 i (by omega) (by omega)]; exact k2 i hi
    · intro i hi; rw [r 16 i (by omega) (by omega)]; exact k3 i hi
    · intro i hi; rw [r 17 i (by omega) (by omega)]; exact k4 i hi
    · intro i k hi hk; rw [r 18 _ (by omega) (by omega)]; exact k5 i k hi hk
    · rw [r 5 0 (by omega) (by omega)]; exact k6
    · rw [hx_rd, if_neg (by omega), hx_rd, if_neg (by omega), hx_rd, if_pos ⟨rfl, rfl, rfl⟩]; rfl
  · apply hx_ERn f12 h.2.1 ok rfl (fun i => by omega)
    · rw [r 12 3 (by omega) (by omega)]; exact r1
    · intro i hi; rw [r 41 i (by omega) (by omega)]; exact r2 i hi
    · intro i hi; rw [r 42 i (by omega) (by omega)]; exact r3 i hi
    · intro i hi; rw [r 44 i (by omega) (by omega)]; exact r4 i hi
    · intro i k hi hk; rw [r 43 _ (by omega) (by omega)]; exact r5 i k hi hk
    · rw [r 12 8 (by omega) (by omega)]; exact r6
    · rw [hx_rd, if_pos ⟨rfl, rfl, rfl⟩]; rfl
theorem hx_scale (d : Nat) {n : Nat} {E : hx_Env} {t : hx_St} {μ : hs_M} (h : hx_I n E t μ) (x y : Int32) : hx_A n μ (hc_H_scale (d + 2) x y) (hc_M_scale (d + 2) x y) := by
  have ec : ∀ A B : Option (Option hs_V × hs_M), (if y < 1 then A else if 9 < y then A else B) = if hx_rg 1 9 y = true then B else A := fun A B => hx_if2 y 1 9 A B
  have ed : ∀ A B : Option (Option hs_V × hs_M), (if y < -9 then A else if 9 < y then A else B) = if hx_rg (-9) 9 y = true then B else A := fun A B => by
    rw [hx_if2]
    rfl
  have er : hx_rg (Int64.toInt 1) (Int64.toInt 9) y = hx_rg 1 9 y := rfl
  have es : hx_rg (Int64.toInt (-9)) (Int64.toInt 9) y = hx_rg (-9) 9 y := rfl
  by_cases c0 : x = 0
  · have ne1 : ¬ x = 1 := by rw [c0]; decide
    by_cases c : hx_rg 1 9 y = true
    · obtain ⟨g, hg1, hg9, ey⟩ := hx_rg1 (n := 9) c
      refine hx_Amk (v := 1) (μ1 := hs_wI μ 5 0 0 (nI g)) ?_ ?_ (hx_scaleG d h hg1 hg9)
      · rw [hq_H_scale, if_pos c0, ec, if_pos c, hx_rz1, ey]
      · rw [hq_M_scale, if_pos c0, hx_inR, hx_bI, hx_tn0, er, if_pos c, hx_rz1, ey]
    · exact hx_Anone h (v := 0) (by rw [hq_H_scale, if_pos c0, ec, if_neg c, hq_H_scale_25, if_neg ne1, hq_H_scale_52, hx_rz0]) (by rw [hq_M_scale, if_pos c0, hx_inR, hx_bI, hx_tn0, er, if_neg c, hq_M_scale_28, if_neg ne1, hq_M_scale_54, hx_rz0])
  by_cases c1 : x = 1
  · by_cases c : hx_rg (-9) 9 y = true
    · have c' := of_decide_eq_true c
      refine hx_Amk (v := 1) (μ1 := hs_wI μ 5 0 1 y) ?_ ?_ (hx_scaleO d h (o := y) c'.1 c'.2)
      · rw [hq_H_scale, if_neg c0, hq_H_scale_25, if_pos c1, ed, if_pos c, hx_rz1]
      · rw [hq_M_scale, if_neg c0, hq_M_scale_28, if_pos c1, hx_inR, hx_bI, hx_tn0, es, if_pos c, hx_rz1]
    · exact hx_Anone h (v := 0) (by rw [hq_H_scale, if_neg c0, hq_H_scale_25, if_pos c1, hq_H_scale_52, ed, if_neg c, hx_rz0]) (by rw [hq_M_scale, if_neg c0, hq_M_scale_28, if_pos c1, hx_inR, hx_bI, hx_tn0, es, if_neg c, hq_M_scale_54, hx_rz0])
  · exact hx_Anone h (v := 0) (by rw [hq_H_scale, if_neg c0, hq_H_scale_25, if_neg c1, hq_H_scale_52, hx_rz0]) (by rw [hq_M_scale, if_neg c0, hq_M_scale_28, if_neg c1, hq_M_scale_54, hx_rz0])
