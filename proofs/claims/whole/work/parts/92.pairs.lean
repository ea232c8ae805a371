/-! ===== E: weighed, forget, told, wipe, scale, set ===== -/
theorem hx_Amk {n : Nat} {μ μ1 μ2 : hs_M} {c r : hs_M → Option (Option hs_V × hs_M)} {v : Int32} (e1 : c μ = some (some (vI v), μ1)) (e2 : r μ1 = some (some (vI v), μ2)) {E : hx_Env} {t : hx_St} (h : hx_I (n + 1) E t μ2) : hx_A n μ c r := ⟨v, μ1, μ2, e1, e2, E, t, h⟩
theorem hx_papp (d : Nat) {μ : hs_M} {j m N : Nat} (hN : (j = 0 ∧ N = 12) ∨ (j = 1 ∧ N = 10)) (hm : m < N) (w : μ.1 2 j 2 = nI m) (x y : Int32) : ∃ μ', hc_Pairs_append (d + 1) j x y μ = some (some (vI (nI (m + 1))), μ') ∧ hx_fr (fun κ b _ => b = j ∧ (κ = 2 ∨ κ = 33 ∨ κ = 34)) μ μ' ∧ μ'.1 2 j 2 = nI (m + 1) ∧ μ'.1 33 j m = x ∧ μ'.1 34 j m = y ∧ (∀ i, i ≠ m → μ'.1 33 j i = μ.1 33 j i ∧ μ'.1 34 j i = μ.1 34 j i) := by
  have l33 : ∀ μ : hs_M, hs_len μ 33 j = N := by
    intro μ
    rcases hN with ⟨a, b⟩ | ⟨a, b⟩ <;> rw [a, b] <;> rfl
  have l34 : ∀ μ : hs_M, hs_len μ 34 j = N := by
    intro μ
    rcases hN with ⟨a, b⟩ | ⟨a, b⟩ <;> rw [a, b] <;> rfl
  refine ⟨hs_wI (hs_wI (hs_wI μ 33 j m x) 34 j m y) 2 j 2 (nI (m + 1)), ?_, hx_wr (hx_wr (hx_wr (hx_rf _ _) _ ⟨rfl, by omega⟩) _ ⟨rfl, by omega⟩) _ ⟨rfl, by omega⟩, ?_, ?_, ?_, ?_⟩
  · rw [hq_Pairs_append, w, if_neg (nI_pos (by omega)), l33, show Int32.ofNat N = nI N from rfl, if_pos (nI_lt hm (by omega)), if_pos (hx_in hm (by omega)), nI_clamp (by omega), l34, if_pos (hx_in hm (by omega)), nI_1, hx_rd, if_pos ⟨rfl, rfl, rfl⟩]
  · rw [hx_rd, if_pos ⟨rfl, rfl, rfl⟩]
  · rw [hx_rd, if_neg (by omega), hx_rd, if_neg (by omega), hx_rd, if_pos ⟨rfl, rfl, rfl⟩]
  · rw [hx_rd, if_neg (by omega), hx_rd, if_pos ⟨rfl, rfl, rfl⟩]
  · intro i hi
    constructor
    · rw [hx_rd, if_neg (by omega), hx_rd, if_neg (by omega), hx_rd, if_neg (by omega)]
    · rw [hx_rd, if_neg (by omega), hx_rd, if_neg (by omega), hx_rd, if_neg (by omega)]
theorem hx_pfull (d : Nat) {μ : hs_M} {j m : Nat} (hN : (j = 0 ∧ m = 12) ∨ (j = 1 ∧ m = 10)) (w : μ.1 2 j 2 = nI m) (x y : Int32) : hc_Pairs_append (d + 1) j x y μ = some (some (vI (-1)), μ) := by
  have l33 : hs_len μ 33 j = m := by
    rcases hN with ⟨a, b⟩ | ⟨a, b⟩ <;> rw [a, b] <;> rfl
  rw [hq_Pairs_append, w, if_neg (nI_pos (by omega)), l33, show Int32.ofNat m = nI m from rfl, if_neg (nI_nlt (by omega) (by omega)), hq_Pairs_append_19]
/-- weighings changed -/
theorem hx_Iwe {X Y : Nat → Nat → Nat → Prop} {n : Nat} {E : hx_Env} {t : hx_St} {μ μ1 μ2 : hs_M} (h : hx_I n E t μ) (f1 : hx_fr X μ μ1) (f2 : hx_fr Y μ1 μ2) (hX : ∀ κ j i, X κ j i → hx_fW κ j i) (hY : ∀ κ j i, Y κ j i → hx_fW κ j i ∨ (κ = 12 ∧ i = 0)) (hw : hx_iW (hx_P E) μ2) : hx_I (n + 1) E t μ2 := by
  obtain ⟨a, b, c, e, g, h1, h2, h3, h4, h5, h6⟩ := hx_Ix h (hx_mo hX f1) (hx_mo hY f2)
  refine ⟨a ?_, b ?_, c ?_, e ?_, g, h1 ?_, h2 ?_, h3 ?_, h4 ?_, hw, h6 ?_⟩ <;> intros <;> simp only [hx_cF, hx_rF, hx_fP, hx_fK, hx_fW, hx_fD, hx_fT] at * <;> omega
theorem hx_Ida {X Y : Nat → Nat → Nat → Prop} {n : Nat} {E : hx_Env} {t : hx_St} {μ μ1 μ2 : hs_M} (h : hx_I n E t μ) (f1 : hx_fr X μ μ1) (f2 : hx_fr Y μ1 μ2) (hX : ∀ κ j i, X κ j i → hx_fD κ j i) (hY : ∀ κ j i, Y κ j i → hx_fD κ j i ∨ (κ = 12 ∧ i = 0)) (hw : hx_iD (hx_P E) μ2) : hx_I (n + 1) E t μ2 := by
  obtain ⟨a, b, c, e, g, h1, h2, h3, h4, h5, h6⟩ := hx_Ix h (hx_mo hX f1) (hx_mo hY f2)
  refine ⟨a ?_, b ?_, c ?_, e ?_, g, h1 ?_, h2 ?_, h3 ?_, h4 ?_, h5 ?_, hw⟩ <;> intros <;> simp only [hx_cF, hx_rF, hx_fP, hx_fK, hx_fW, hx_fD, hx_fT] at * <;> omega
theorem hx_weighed (d : Nat) {n : Nat} {E : hx_Env} {t : hx_St} {μ : hs_M} (h : hx_I n E t μ) (x y : Int32) : hx_A n μ (hc_H_weighed (d + 3) x y) (hc_M_weighed (d + 3) x y) := by
  have h8 := h.1.1.1
  have h0 := hx_I0 (hx_Ia h)
  obtain ⟨m, hm, w2, w3, w4⟩ := h.2.2.2.2.2.2.2.2.2.1
  have ec : ∀ A B : Option (Option hs_V × hs_M), (if y < 0 then A else if 1010 < y then A else B) = if hx_rg 0 1010 y = true then B else A := fun A B => hx_if2 y 0 1010 A B
  have er : hx_rg (Int64.toInt 0) (Int64.toInt 1010) y = hx_rg 0 1010 y := rfl
  by_cases c : hx_isP (hx_P E) x = true
  rotate_left
  · exact hx_Anone h (v := -1) (by rw [hq_H_weighed, hx_thas _ h.1, hx_bI, hx_tn0, if_neg c, hq_H_weighed_22]) (by rw [hq_M_weighed, hx_isPM _ h0.2.1, hx_bI, hx_tn0, if_neg c, hq_M_weighed_34])
  by_cases c2 : hx_rg 0 1010 y = true
  rotate_left
  · exact hx_Anone h (v := -1) (by rw [hq_H_weighed, hx_thas _ h.1, hx_bI, hx_tn0, if_pos c, hq_H_weighed_22, ec, if_neg c2]) (by rw [hq_M_weighed, hx_isPM _ h0.2.1, hx_bI, hx_tn0, if_pos c, hx_inR, hx_bI, hx_tn0, er, if_neg c2, hq_M_weighed_34])
  by_cases c3 : m = 12
  · apply hx_Anone h (v := -1)
    · rw [hq_H_weighed, hx_thas _ h.1, hx_bI, hx_tn0, if_pos c, hq_H_weighed_22, ec, if_pos c2, hx_pfull _ (Or.inl ⟨rfl, c3⟩) w2, hx_bI]
    · rw [hq_M_weighed, hx_isPM _ h0.2.1, hx_bI, hx_tn0, if_pos c, hx_inR, hx_bI, hx_tn0, er, if_pos c2, show (hs_wI μ 12 0 0 0).1 12 0 34 = nI m by rw [hx_rd, if_neg (by omega), w3], if_pos (by rw [c3]; rfl), hq_M_weighed_34]
  obtain ⟨p, hp, ex⟩ := hx_isPn c
  obtain ⟨v, hv, ey⟩ := hx_rgN (n := 1010) c2
  obtain ⟨μ1, e1, f1, g1, g2, g3, g4⟩ := hx_papp (d + 1) (j := 0) (N := 12) (Or.inl ⟨rfl, rfl⟩) (by omega) w2 x y
  have hI : hx_ER (hs_wI μ1 12 0 0 0) E := hx_ERf (hx_tr (hx_mo (Y := fun κ b i => κ < 12 ∨ (12 < κ ∧ κ < 40) ∨ (κ = 12 ∧ i = 0)) (fun κ b i z => by omega) f1) (hx_wr (hx_rf _ _) _ (by omega))) (by intro κ i a b; unfold hx_rF at a; omega) h.2.1
  have e34 : (hs_wI μ1 12 0 0 0).1 12 0 34 = nI m := by rw [hx_rd, if_neg (by omega), f1.1 12 0 34 (by omega), w3]
  have R : ∃ μ2, hc_M_weighed (d + 3) x y μ1 = some (some (vI (nI (m + 1))), μ2) ∧ hx_fr (fun κ b i => b = 0 ∧ (κ = 59 ∨ κ = 60 ∨ (κ = 12 ∧ (i = 34 ∨ i = 0)))) μ1 μ2 ∧ μ2.1 12 0 34 = nI (m + 1) ∧ μ2.1 59 0 m = x ∧ μ2.1 60 0 m = y ∧ (∀ i, i ≠ m → μ2.1 59 0 i = μ1.1 59 0 i ∧ μ2.1 60 0 i = μ1.1 60 0 i) := by
    refine ⟨hs_wI (hs_wI (hs_wI (hs_wI μ1 12 0 0 0) 59 0 m x) 60 0 m y) 12 0 34 (nI (m + 1)), ?_, hx_wr (hx_wr (hx_wr (hx_wr (hx_rf _ _) _ (by omega)) _ (by omega)) _ (by omega)) _ (by omega), ?_, ?_, ?_, ?_⟩
    · rw [hq_M_weighed, hx_isPM _ hI, hx_bI, hx_tn0, if_pos c, hx_inR, hx_bI, hx_tn0, er, if_pos c2, e34, if_neg (show ¬ nI m = (12 : Int32) from by rw [show (12 : Int32) = nI 12 from rfl, nI_eq (by omega) (by omega)]; exact c3), if_pos (hx_in (by omega) (by omega)), if_pos (hx_in (by omega) (by omega)), nI_clamp (by omega), nI_1]
    · rw [hx_rd, if_pos ⟨rfl, rfl, rfl⟩]
    · rw [hx_rd, if_neg (by omega), hx_rd, if_neg (by omega), hx_rd, if_pos ⟨rfl, rfl, rfl⟩]
    · rw [hx_rd, if_neg (by omega), hx_rd, if_pos ⟨rfl, rfl, rfl⟩]
    · intro i hi
      constructor
      · rw [hx_rd, if_neg (by omega), hx_rd, if_neg (by omega), hx_rd, if_neg (by omega), hx_rd, if_neg (by omega)]
      · rw [hx_rd, if_neg (by omega), hx_rd, if_neg (by omega), hx_rd, if_neg (by omega), hx_rd, if_neg (by omega)]
  obtain ⟨μ2, e2, f2, k1, k2, k3, k4⟩ := R
  refine hx_Amk (μ1 := μ1) (μ2 := μ2) (v := nI (m + 1)) ?_ e2 (E := E) (t := t) (hx_Iwe h f1 f2 (fun κ j i z => by unfold hx_fW; omega) (fun κ j i z => by unfold hx_fW; omega) ⟨m + 1, by omega, ?_, k1, ?_⟩)
  · rw [hq_H_weighed, hx_thas _ h.1, hx_bI, hx_tn0, if_pos c, hq_H_weighed_22, ec, if_pos c2, e1, hx_bI]
  · rw [f2.1 2 0 2 (by omega), g1]
  · intro k hk
    rw [f2.1 33 0 k (by omega), f2.1 34 0 k (by omega)]
    by_cases z : k = m
    · rw [z, g2, g3, k2, k3]
      exact ⟨⟨p, hp, ex, ex⟩, ⟨v, hv, ey, ey⟩⟩
    · rw [(g4 k z).1, (g4 k z).2, (k4 k z).1, (k4 k z).2, f1.1 59 0 k (by omega), f1.1 60 0 k (by omega)]
      exact w4 k (by omega)
theorem hx_told (d : Nat) {n : Nat} {E : hx_Env} {t : hx_St} {μ : hs_M} (h : hx_I n E t μ) (x y : Int32) : hx_A n μ (hc_H_told (d + 3) x y) (hc_M_told (d + 3) x y) := by
  have h8 := h.1.1.1
  have h0 := hx_I0 (hx_Ia h)
  obtain ⟨m, hm, w2, w3, w4⟩ := h.2.2.2.2.2.2.2.2.2.2
  have ec : ∀ A B : Option (Option hs_V × hs_M), (if y < 1 then A else if 60 < y then A else B) = if hx_rg 1 60 y = true then B else A := fun A B => hx_if2 y 1 60 A B
  have er : hx_rg (Int64.toInt 1) (Int64.toInt 60) y = hx_rg 1 60 y := rfl
  by_cases c : hx_isP (hx_P E) x = true
  rotate_left
  · exact hx_Anone h (v := -1) (by rw [hq_H_told, hx_thas _ h.1, hx_bI, hx_tn0, if_neg c, hq_H_told_22]) (by rw [hq_M_told, hx_isPM _ h0.2.1, hx_bI, hx_tn0, if_neg c, hq_M_told_34])
  by_cases c2 : hx_rg 1 60 y = true
  rotate_left
  · exact hx_Anone h (v := -1) (by rw [hq_H_told, hx_thas _ h.1, hx_bI, hx_tn0, if_pos c, hq_H_told_22, ec, if_neg c2]) (by rw [hq_M_told, hx_isPM _ h0.2.1, hx_bI, hx_tn0, if_pos c, hx_inR, hx_bI, hx_tn0, er, if_neg c2, hq_M_told_34])
  by_cases c3 : m = 10
  · apply hx_Anone h (v := -1)
    · rw [hq_H_told, hx_thas _ h.1, hx_bI, hx_tn0, if_pos c, hq_H_told_22, ec, if_pos c2, hx_pfull _ (Or.inr ⟨rfl, c3⟩) w2, hx_bI]
    · rw [hq_M_told, hx_isPM _ h0.2.1, hx_bI, hx_tn0, if_pos c, hx_inR, hx_bI, hx_tn0, er, if_pos c2, show (hs_wI μ 12 0 0 0).1 12 0 37 = nI m by rw [hx_rd, if_neg (by omega), w3], if_pos (by rw [c3]; rfl), hq_M_told_34]
  obtain ⟨p, hp, ex⟩ := hx_isPn c
  obtain ⟨v, hv1, hv, ey⟩ := hx_rg1 (n := 60) c2
  obtain ⟨μ1, e1, f1, g1, g2, g3, g4⟩ := hx_papp (d + 1) (j := 1) (N := 10) (Or.inr ⟨rfl, rfl⟩) (by omega) w2 x y
  have hI : hx_ER (hs_wI μ1 12 0 0 0) E := hx_ERf (hx_tr (hx_mo (Y := fun κ b i => κ < 12 ∨ (12 < κ ∧ κ < 40) ∨ (κ = 12 ∧ i = 0)) (fun κ b i z => by omega) f1) (hx_wr (hx_rf _ _) _ (by omega))) (by intro κ i a b; unfold hx_rF at a; omega) h.2.1
  have e34 : (hs_wI μ1 12 0 0 0).1 12 0 37 = nI m := by rw [hx_rd, if_neg (by omega), f1.1 12 0 37 (by omega), w3]
  have R : ∃ μ2, hc_M_told (d + 3) x y μ1 = some (some (vI (nI (m + 1))), μ2) ∧ hx_fr (fun κ b i => b = 0 ∧ (κ = 61 ∨ κ = 62 ∨ (κ = 12 ∧ (i = 37 ∨ i = 0)))) μ1 μ2 ∧ μ2.1 12 0 37 = nI (m + 1) ∧ μ2.1 61 0 m = x ∧ μ2.1 62 0 m = y ∧ (∀ i, i ≠ m → μ2.1 61 0 i = μ1.1 61 0 i ∧ μ2.1 62 0 i = μ1.1 62 0 i) := by
    refine ⟨hs_wI (hs_wI (hs_wI (hs_wI μ1 12 0 0 0) 61 0 m x) 62 0 m y) 12 0 37 (nI (m + 1)), ?_, hx_wr (hx_wr (hx_wr (hx_wr (hx_rf _ _) _ (by omega)) _ (by omega)) _ (by omega)) _ (by omega), ?_, ?_, ?_, ?_⟩
    · rw [hq_M_told, hx_isPM _ hI, hx_bI, hx_tn0, if_pos c, hx_inR, hx_bI, hx_tn0, er, if_pos c2, e34, if_neg (show ¬ nI m = (10 : Int32) from by rw [show (10 : Int32) = nI 10 from rfl, nI_eq (by omega) (by omega)]; exact c3), if_pos (hx_in (by omega) (by omega)), if_pos (hx_in (by omega) (by omega)), nI_clamp (by omega), nI_1]
    · rw [hx_rd, if_pos ⟨rfl, rfl, rfl⟩]
    · rw [hx_rd, if_neg (by omega), hx_rd, if_neg (by omega), hx_rd, if_pos ⟨rfl, rfl, rfl⟩]
    · rw [hx_rd, if_neg (by omega), hx_rd, if_pos ⟨rfl, rfl, rfl⟩]
    · intro i hi
      constructor
      · rw [hx_rd, if_neg (by omega), hx_rd, if_neg (by omega), hx_rd, if_neg (by omega), hx_rd, if_neg (by omega)]
      · rw [hx_rd, if_neg (by omega), hx_rd, if_neg (by omega), hx_rd, if_neg (by omega), hx_rd, if_neg (by omega)]
  obtain ⟨μ2, e2, f2, k1, k2, k3, k4⟩ := R
  refine hx_Amk (μ1 := μ1) (μ2 := μ2) (v := nI (m + 1)) ?_ e2 (E := E) (t := t) (hx_Ida h f1 f2 (fun κ j i z => by unfold hx_fD; omega) (fun κ j i z => by unfold hx_fD; omega) ⟨m + 1, by omega, ?_, k1, ?_⟩)
  · rw [hq_H_told, hx_thas _ h.1, hx_bI, hx_tn0, if_pos c, hq_H_told_22, ec, if_pos c2, e1, hx_bI]
  · rw [f2.1 2 1 2 (by omega), g1]
  · intro k hk
    rw [f2.1 33 1 k (by omega), f2.1 34 1 k (by omega)]
    by_cases z : k = m
    · rw [z, g2, g3, k2, k3]
      exact ⟨⟨p, hp, ex, ex⟩, ⟨v, hv1, hv, ey, ey⟩⟩
    · rw [(g4 k z).1, (g4 k z).2, (k4 k z).1, (k4 k z).2, f1.1 61 0 k (by omega), f1.1 62 0 k (by omega)]
      exact w4 k (by omega)
theorem hx_forget (d : Nat) {n : Nat} {E : hx_Env} {t : hx_St} {μ : hs_M} (h : hx_I n E t μ) : hx_A n μ (hc_H_forget (d + 1)) (hc_M_forget (d + 1)) := by
  obtain ⟨m, hm, w2, w3, w4⟩ := h.2.2.2.2.2.2.2.2.2.1
  by_cases c : m = 0
  · exact hx_Anone h (v := -1) (by rw [hq_H_forget, w2, if_pos (by rw [c]; rfl)]) (by rw [hq_M_forget, w3, if_pos (by rw [c]; rfl)])
  obtain ⟨m', rfl⟩ : ∃ m', m = m' + 1 := ⟨m - 1, by omega⟩
  have f1 : hx_fr hx_fW μ (hs_wI μ 2 0 2 (nI m')) := hx_wr (hx_rf _ _) _ (by unfold hx_fW; omega)
  have f2 : hx_fr (fun κ j i => hx_fW κ j i ∨ (κ = 12 ∧ i = 0)) (hs_wI μ 2 0 2 (nI m')) (hs_wI (hs_wI (hs_wI μ 2 0 2 (nI m')) 12 0 0 0) 12 0 34 (nI m')) := hx_wr (hx_wr (hx_rf _ _) _ (by omega)) _ (by unfold hx_fW; omega)
  refine hx_Amk (v := nI m') (μ1 := hs_wI μ 2 0 2 (nI m')) (μ2 := hs_wI (hs_wI (hs_wI μ 2 0 2 (nI m')) 12 0 0 0) 12 0 34 (nI m')) ?_ ?_ (E := E) (t := t) (hx_Iwe h f1 f2 (fun κ j i z => z) (fun κ j i z => z) ⟨m', by omega, ?_, ?_, ?_⟩)
  · rw [hq_H_forget, w2, if_neg (nI_ne0 (by omega) (by omega)), nI_pred]
  · rw [hq_M_forget, show (hs_wI μ 2 0 2 (nI m')).1 12 0 34 = nI (m' + 1) by rw [hx_rd, if_neg (by omega), w3], if_neg (nI_ne0 (by omega) (by omega)), nI_pred]
  · rw [hx_rd, if_neg (by omega), hx_rd, if_neg (by omega), hx_rd, if_pos ⟨rfl, rfl, rfl⟩]
  · rw [hx_rd, if_pos ⟨rfl, rfl, rfl⟩]
  · intro k hk
    have := w4 k (by omega)
    have r : ∀ κ, (κ = 33 ∨ κ = 34 ∨ κ = 59 ∨ κ = 60) → (hs_wI (hs_wI (hs_wI μ 2 0 2 (nI m')) 12 0 0 0) 12 0 34 (nI m')).1 κ 0 k = μ.1 κ 0 k := fun κ hκ => by rw [hx_rd, if_neg (by omega), hx_rd, if_neg (by omega), hx_rd, if_neg (by omega)]
    rw [r 33 (by omega), r 34 (by omega), r 59 (by omega), r 60 (by omega)]
    exact this
theorem hx_wipe (d : Nat) {n : Nat} {E : hx_Env} {t : hx_St} {μ : hs_M} (h : hx_I n E t μ) : hx_A n μ (hc_H_wipe (d + 1)) (hc_M_wipe (d + 1)) := by
  obtain ⟨m, hm, w2, w3, w4⟩ := h.2.2.2.2.2.2.2.2.2.2
  have f1 : hx_fr hx_fD μ (hs_wI μ 2 1 2 0) := hx_wr (hx_rf _ _) _ (by unfold hx_fD; omega)
  have f2 : hx_fr (fun κ j i => hx_fD κ j i ∨ (κ = 12 ∧ i = 0)) (hs_wI μ 2 1 2 0) (hs_wI (hs_wI (hs_wI μ 2 1 2 0) 12 0 0 0) 12 0 37 0) := hx_wr (hx_wr (hx_rf _ _) _ (by omega)) _ (by unfold hx_fD; omega)
  refine hx_Amk (v := nI m) (μ1 := hs_wI μ 2 1 2 0) (μ2 := hs_wI (hs_wI (hs_wI μ 2 1 2 0) 12 0 0 0) 12 0 37 0) ?_ ?_ (E := E) (t := t) (hx_Ida h f1 f2 (fun κ j i z => z) (fun κ j i z => z) ⟨0, by omega, ?_, ?_, fun k hk => absurd hk (by omega)⟩)
  · rw [hq_H_wipe, w2]
  · rw [hq_M_wipe, show (hs_wI μ 2 1 2 0).1 12 0 37 = nI m by rw [hx_rd, if_neg (by omega), w3]]
  · rw [hx_rd, if_neg (by omega), hx_rd, if_neg (by omega), hx_rd, if_pos ⟨rfl, rfl, rfl⟩]
    rfl
  · rw [hx_rd, if_pos ⟨rfl, rfl, rfl⟩]
    rfl
