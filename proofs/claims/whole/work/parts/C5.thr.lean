/-! ===== the five that may throw, once more: what the law's own row holds stays ===== -/
theorem hx_fr69 {X : Nat → Nat → Nat → Prop} {μ μ' : hs_M} (f : hx_fr X μ μ') (w : Int64) : hx_fr X (hs_wL μ 69 0 0 w) (hs_wL μ' 69 0 0 w) := by
  refine ⟨f.1, fun κ j i h => ?_⟩
  rw [hx_rl, hx_rl]
  by_cases c : κ = 69 ∧ i = 0 ∧ j = 0
  · rw [if_pos c, if_pos c]
  · rw [if_neg c, if_neg c, f.2 κ j i h]
theorem hx_I69' {n : Nat} {E : hx_Env} {t : hx_St} {μ : hs_M} (h : hx_I' n E t μ) (w : Int64) : hx_I' n E t (hs_wL μ 69 0 0 w) := h
theorem hx_I69 {n : Nat} {E : hx_Env} {t : hx_St} {μ : hs_M} (h : hx_I n E t μ) (w : Int64) : hx_I n E t (hs_wL μ 69 0 0 w) := by
  obtain ⟨l, ⟨a1, a2, a3⟩, ⟨b1, b2, b3⟩⟩ := h.2.2.2.2.2.2.1
  refine hx_Ib (hx_I69' (hx_Ia h) w) ⟨l, ⟨a1, a2, fun i v e => ?_⟩, ⟨b1, b2, fun i v e => ?_⟩⟩
  · rw [hx_rl, if_neg (by omega)]
    exact a3 i v e
  · rw [hx_rl, if_neg (by omega)]
    exact b3 i v e
theorem hx_w69 (μ : hs_M) (w : Int64) : (hs_wL μ 69 0 0 w).2 69 0 0 = w := by rw [hx_rl, if_pos ⟨rfl, rfl, rfl⟩]
/-- a place where the five throw -/
def hl_new (y pc : Nat) : Prop := (y = 113 ∧ (pc = 11 ∨ pc = 169)) ∨ (y = 114 ∧ pc = 28) ∨ (y = 122 ∧ (pc = 15 ∨ pc = 98)) ∨ (y = 136 ∧ pc = 21) ∨ (y = 157 ∧ pc = 27)
def hx_T2 {α : Type} (n : Nat) (μ : hs_M) (f : α → hs_V) (y d : Nat) (as : List hs_V) (c r : hs_M → Option (Option hs_V × hs_M)) : Prop := (∃ v μ1, c μ = some (some (f v), μ1) ∧ ∀ w, ∃ μ2, r (hs_wL μ1 69 0 0 w) = some (some (f v), μ2) ∧ μ2.1 12 0 0 = 0 ∧ μ2.2 69 0 0 = w ∧ ∃ E t, hx_I (n + 1) E t μ2) ∨ ((∃ pc L, hl_new y pc ∧ hl_t y d as μ = some ((pc, L, []), μ)) ∧ ∃ v μ2, r μ = some (some (f v), μ2) ∧ μ2.1 12 0 0 = 1 ∧ ∃ E t, hx_I (n + 1) E t μ2)
theorem hx_T2f {n : Nat} {E : hx_Env} {t : hx_St} {μ : hs_M} (h : hx_I n E t μ) {y d : Nat} {as : List hs_V} {c r : hs_M → Option (Option hs_V × hs_M)} {v : Int32} (e1 : ∃ pc L, hl_new y pc ∧ hl_t y d as μ = some ((pc, L, []), μ)) (e2 : r μ = some (some (vI v), hs_wI (hs_wI μ 12 0 0 0) 12 0 0 1)) : hx_T2 n μ vI y d as c r :=
  Or.inr ⟨e1, v, _, e2, by rw [hx_rd, if_pos ⟨rfl, rfl, rfl⟩], E, t, hx_Iq0 h (hx_rf _ _) (hx_wr (hx_wr (hx_rf _ _) _ (by unfold hx_qR; omega)) _ (by unfold hx_qR; omega))⟩
theorem hx_T2y {n : Nat} {E : hx_Env} {t : hx_St} {μ : hs_M} (h : hx_I n E t μ) {y d : Nat} {as : List hs_V} {c r : hs_M → Option (Option hs_V × hs_M)} {v : Int32} (e1 : c μ = some (some (vI v), μ)) (e2 : ∀ μ', hx_I n E t μ' → r μ' = some (some (vI v), hs_wI μ' 12 0 0 0)) : hx_T2 n μ vI y d as c r :=
  Or.inl ⟨v, μ, e1, fun w => ⟨_, e2 _ (hx_I69 h w), by rw [hx_rd, if_pos ⟨rfl, rfl, rfl⟩], hx_w69 μ w, E, t, hx_Iq0 (hx_I69 h w) (hx_rf _ _) (hx_wr (hx_rf _ _) _ (by unfold hx_qR; omega))⟩⟩
theorem hx_laws2 (d : Nat) {n : Nat} {E : hx_Env} {t : hx_St} {μ : hs_M} (h : hx_I n E t μ) (x y : Int32) : hx_T2 n μ vI 122 (d + 1) [vR 11 0, vI x, vI y] (hc_H_laws (d + 2) x y) (hc_M_laws (d + 2) x y) := by
  have h0 := hx_I0 (hx_Ia h)
  obtain ⟨L, hL, e20, _⟩ := h.2.2.2.2.1.2.2.1
  obtain ⟨⟨_, _, _, _, _, _, k4, _⟩, k6, k26, k27, k28, _⟩ := h.2.2.1
  have e0 : (0 : Int32).toInt = 0 := by decide
  have el : (nI L).toInt = (L : Int) := nI_toInt (by omega)
  have er : ∀ μ', hx_I n E t μ' → hc_M_in (d + 1) x.toInt64 0 ((hs_wI μ' 12 0 0 0).1 45 0 20 - 1).toInt64 (hs_wI μ' 12 0 0 0) = some (some (vI (hx_tn (hx_rg 0 ((L : Int) - 1) x))), hs_wI μ' 12 0 0 0) := by
    intro μ' h'
    rw [hx_inR, Int32.toInt_toInt64, hx_SR0 (hx_I0 (hx_Ia h')).2.2.2.1 (by omega), e20, hx_m1i (by omega)]
    rfl
  have eμ : ∀ μ' : hs_M, μ'.1 45 0 20 = (hs_wI μ' 12 0 0 0).1 45 0 20 := fun μ' => by rw [hx_rd, if_neg (by omega)]
  by_cases c : hx_rg 0 ((L : Int) - 1) x = true
  rotate_left
  · have c' : ¬ (0 ≤ x.toInt ∧ x.toInt ≤ (L : Int) - 1) := fun z => c (decide_eq_true z)
    apply hx_T2f h (v := 0)
    · refine ⟨15, [none, none, none], by unfold hl_new; omega, ?_⟩
      rw [hl_t_laws, k6, e20]
      by_cases z : x < 0
      · rw [if_pos z]
      · rw [if_neg z, if_neg (by rw [hx_li] at *; omega)]
    · rw [hq_M_laws, eμ μ, er μ h, hx_bI, hx_tn0, if_neg c, hq_M_laws_36, hq_M_refuse, hx_bI]
  have c' := of_decide_eq_true c
  obtain ⟨l, hl, ex⟩ := nI_of (x := x) (by rw [hx_li]; omega)
  rw [ex, nI_toInt hl] at c'
  have hlL : l < L := by omega
  have er2 : hx_rg (Int64.toInt 0) (Int64.toInt 3) y = hx_rg 0 3 y := rfl
  have pre : ∀ A B, (if nI l < 0 then A else if nI l < nI L then B else A) = (B : Option (Option hs_V × hs_M)) := fun A B => by rw [if_neg (nI_pos (by omega)), if_pos (nI_lt hlL (by omega))]
  have pre2 : ∀ A B, (if nI l < 0 then A else if nI l < nI L then B else A) = (B : Option hl_C) := fun A B => by rw [if_neg (nI_pos (by omega)), if_pos (nI_lt hlL (by omega))]
  by_cases c2 : hx_rg 0 3 y = true
  rotate_left
  · apply hx_T2f h (v := 0)
    · refine ⟨98, [none, none, none], by unfold hl_new; omega, ?_⟩
      have z := fun k hk => hx_rgx (n := 3) (by omega) c2 (k := k) hk
      rw [hl_t_laws, k6, e20, ex, pre2, if_neg (show ¬ y = (0 : Int32) from z 0 (by omega)), if_neg (show ¬ y = (1 : Int32) from z 1 (by omega)), if_neg (show ¬ y = (2 : Int32) from z 2 (by omega)), if_neg (show ¬ y = (3 : Int32) from z 3 (by omega))]
    · rw [hq_M_laws, eμ μ, er μ h, hx_bI, hx_tn0, if_pos c, hx_inR, hx_bI, hx_tn0, er2, if_neg c2, hq_M_laws_36, hq_M_refuse, hx_bI]
  obtain ⟨k, hk, ey⟩ := hx_rgN (n := 3) c2
  have k4' : k = 0 ∨ k = 1 ∨ k = 2 ∨ k = 3 := by omega
  rw [ey] at c2 er2
  rw [ex] at er c
  rw [ex, ey]
  have i12 : hs_in (nI l) 12 = true := hx_in (by omega) (by omega)
  rcases k4' with rfl | rfl | rfl | rfl
  · apply hx_T2y h (v := t (21 + l))
    · rw [hq_H_laws, k6, e20, hq_H_laws_15, pre, if_pos (by decide), if_pos i12, nI_clamp (by omega), k26 l (by omega)]
    · intro μ' h'
      rw [hq_M_laws, eμ μ', er μ' h', hx_bI, hx_tn0, if_pos c, hx_inR, hx_bI, hx_tn0, er2, if_pos c2, if_pos (by decide), show (21 : Int32) + nI l = nI (21 + l) from nI_add 21 l, if_pos (hx_in (by omega) (by omega)), nI_clamp (by omega), hx_SR0 (hx_I0 (hx_Ia h')).2.2.2.1 (by omega)]
  · apply hx_T2y h (v := t (33 + l))
    · rw [hq_H_laws, k6, e20, hq_H_laws_15, pre, if_neg (by decide), if_pos (by decide), if_pos i12, nI_clamp (by omega), k27 l (by omega)]
    · intro μ' h'
      rw [hq_M_laws, eμ μ', er μ' h', hx_bI, hx_tn0, if_pos c, hx_inR, hx_bI, hx_tn0, er2, if_pos c2, if_neg (by decide), if_pos (by decide), show (33 : Int32) + nI l = nI (33 + l) from nI_add 33 l, if_pos (hx_in (by omega) (by omega)), nI_clamp (by omega), hx_SR0 (hx_I0 (hx_Ia h')).2.2.2.1 (by omega)]
  · apply hx_T2y h (v := hx_tn (decide (t (45 + l) < 0)))
    · rw [hq_H_laws, k6, e20, hq_H_laws_15, pre, if_neg (by decide), if_neg (by decide), if_pos (by decide), hx_bit _ (by omega), k4]
      unfold hx_holds
      rw [e20, nI_clamp (by omega), hx_hbt (by omega) _ (by omega)]
      by_cases z : t (45 + l) < 0
      · rw [decide_eq_true ⟨hlL, z⟩, decide_eq_true z]
        rfl
      · rw [decide_eq_false (by rintro ⟨_, y⟩; exact z y), decide_eq_false z]
        rfl
    · intro μ' h'
      rw [hq_M_laws, eμ μ', er μ' h', hx_bI, hx_tn0, if_pos c, hx_inR, hx_bI, hx_tn0, er2, if_pos c2, if_neg (by decide), if_neg (by decide), if_pos (by decide), show (45 : Int32) + nI l = nI (45 + l) from nI_add 45 l, if_pos (hx_in (by omega) (by omega)), nI_clamp (by omega), hx_SR0 (hx_I0 (hx_Ia h')).2.2.2.1 (by omega), hx_flag1, hx_flag0, hx_bI, hx_bI]
      by_cases z : t (45 + l) < 0
      · rw [if_pos z, decide_eq_true z]
        rfl
      · rw [if_neg z, decide_eq_false z]
        rfl
  · apply hx_T2y h (v := t (45 + l))
    · rw [hq_H_laws, k6, e20, hq_H_laws_15, pre, if_neg (by decide), if_neg (by decide), if_neg (by decide), if_pos (by decide), if_pos i12, nI_clamp (by omega), k28 l (by omega)]
    · intro μ' h'
      rw [hq_M_laws, eμ μ', er μ' h', hx_bI, hx_tn0, if_pos c, hx_inR, hx_bI, hx_tn0, er2, if_pos c2, if_neg (by decide), if_neg (by decide), if_neg (by decide), show (45 : Int32) + nI l = nI (45 + l) from nI_add 45 l, if_pos (hx_in (by omega) (by omega)), nI_clamp (by omega), hx_SR0 (hx_I0 (hx_Ia h')).2.2.2.1 (by omega)]
theorem hx_change2 (d : Nat) {n : Nat} {E : hx_Env} {t : hx_St} {μ : hs_M} (h : hx_I n E t μ) (x y : Int32) : hx_T2 n μ vI 114 (d + 2) [vR 11 0, vI x, vI y] (hc_H_change (d + 3) x y) (hc_M_change (d + 3) x y) := by
  have h8 := h.1.1.1
  have h0 := hx_I0 (hx_Ia h)
  by_cases c : hx_isP (hx_P E) x = true
  rotate_left
  · apply hx_T2f h (v := 0)
    · refine ⟨28, [none, none, none], by unfold hl_new; omega, ?_⟩
      rw [hl_t_change, hx_thas _ h.1, hx_bI, hx_tn0, if_neg c]
    · rw [hq_M_change, hx_isPM _ h0.2.1, hx_bI, hx_tn0, if_neg c, hq_M_change_31, hq_M_refuse, hx_bI]
  obtain ⟨p, hp, ex⟩ := hx_isPn c
  have h6 := h.1.1.2.1 p hp
  have em : (nI (hx_Hl E p) - 1).toInt = (hx_Hl E p : Int) - 1 := hx_m1i (by omega)
  have e0 : (0 : Int32).toInt = 0 := by decide
  have el : (nI (hx_Hl E p)).toInt = (hx_Hl E p : Int) := nI_toInt (by omega)
  have er : ∀ μ', hc_M_in (d + 2) y.toInt64 0 (nI (hx_Hl E p) - 1).toInt64 μ' = some (some (vI (hx_tn (hx_rg 0 ((hx_Hl E p : Int) - 1) y))), μ') := by
    intro μ'
    rw [hx_inR, Int32.toInt_toInt64, em]
    rfl
  by_cases c2 : hx_rg 0 ((hx_Hl E p : Int) - 1) y = true
  · have c2' := of_decide_eq_true c2
    obtain ⟨k, hk, ey⟩ := nI_of (x := y) (by rw [hx_li]; omega)
    rw [ey, nI_toInt hk] at c2'
    have hkl : k < hx_Hl E p := by omega
    apply hx_T2y h (v := hx_Hb E p k)
    · rw [hq_H_change, hx_thas _ h.1, hx_bI, hx_tn0, if_pos c, ex, ey, if_neg (nI_pos (by omega)), if_pos (hx_in (by omega) (by omega)), nI_clamp (by omega), h.1.2.2.2.2.1 p hp, if_pos (nI_lt hkl (by omega)), hq_Town_changeAt, show nI p * 6 + nI k = nI (6 * p + k) by rw [show (6 : Int32) = nI 6 from rfl, pk_mul, nI_add, Nat.mul_comm], if_neg (nI_pos (by omega)), if_pos (show nI (6 * p + k) < (48 : Int32) from nI_lt (b := 48) (by omega) (by omega)), if_pos (hx_in (by omega) (by omega)), nI_clamp (by omega), h.1.2.2.2.2.2.1 p k hp hkl, hx_bI]
    · intro μ' h'
      rw [hq_M_change, hx_isPM _ (hx_I0 (hx_Ia h')).2.1, hx_bI, hx_tn0, if_pos c, ex, if_pos (hx_in (by omega) (by omega)), nI_clamp (by omega), (hx_I0 (hx_Ia h')).2.1.2.2.2.2.1 p hp, er, hx_bI, hx_tn0, if_pos c2, ey, show 6 * nI p + nI k = nI (6 * p + k) by rw [show (6 : Int32) = nI 6 from rfl, pk_mul, nI_add], if_pos (hx_in (by omega) (by omega)), nI_clamp (by omega), (hx_I0 (hx_Ia h')).2.1.2.2.2.2.2.1 p k hp hkl]
  · have c2' : ¬ (0 ≤ y.toInt ∧ y.toInt ≤ (hx_Hl E p : Int) - 1) := fun z => c2 (decide_eq_true z)
    apply hx_T2f h (v := 0)
    · refine ⟨28, [none, none, none], by unfold hl_new; omega, ?_⟩
      rw [hl_t_change, hx_thas _ h.1, hx_bI, hx_tn0, if_pos c, ex]
      by_cases z : y < 0
      · rw [if_pos z]
      · rw [if_neg z, if_pos (hx_in (by omega) (by omega)), nI_clamp (by omega), h.1.2.2.2.2.1 p hp, if_neg (by rw [hx_li] at *; omega)]
    · rw [hq_M_change, hx_isPM _ h0.2.1, hx_bI, hx_tn0, if_pos c, ex, if_pos (hx_in (by omega) (by omega)), nI_clamp (by omega), h0.2.1.2.2.2.2.1 p hp, er, hx_bI, hx_tn0, if_neg c2, hq_M_change_31, hq_M_refuse, hx_bI]
theorem hx_row2 (d : Nat) {n : Nat} {E : hx_Env} {t : hx_St} {μ : hs_M} (h : hx_I n E t μ) (x : Int32) : hx_T2 n μ vL 157 (d + 1) [vR 11 0, vI x] (hc_H_row (d + 2) x) (hc_M_row (d + 2) x) := by
  obtain ⟨l, ⟨r0, r1, r2⟩, ⟨q0, q1, q2⟩⟩ := h.2.2.2.2.2.2.1
  have e0 : (0 : Int32).toInt = 0 := by decide
  have el : (nI l.length).toInt = (l.length : Int) := nI_toInt (by omega)
  have er : ∀ μ' : hs_M, μ'.1 12 0 1 = nI l.length → hc_M_in (d + 1) x.toInt64 0 (μ'.1 12 0 1 - 1).toInt64 (hs_wI μ' 12 0 0 0) = some (some (vI (hx_tn (hx_rg 0 ((l.length : Int) - 1) x))), hs_wI μ' 12 0 0 0) := by
    intro μ' q1
    rw [hx_inR, Int32.toInt_toInt64, q1, hx_m1i (by omega)]
    rfl
  by_cases c : hx_rg 0 ((l.length : Int) - 1) x = true
  · have c' := of_decide_eq_true c
    obtain ⟨k, hk, ex⟩ := nI_of (x := x) (by rw [hx_li]; omega)
    rw [ex, nI_toInt hk] at c'
    have hkl : k < l.length := by omega
    left
    refine ⟨l[k], μ, ?_, fun w => ⟨hs_wI (hs_wL μ 69 0 0 w) 12 0 0 0, ?_, by rw [hx_rd, if_pos ⟨rfl, rfl, rfl⟩], hx_w69 μ w, E, t, hx_Iq0 (hx_I69 h w) (hx_rf _ _) (hx_wr (hx_rf _ _) _ (by unfold hx_qR; omega))⟩⟩
    · rw [hq_H_row, r1, ex, if_neg (nI_pos (by omega)), if_pos (nI_lt hkl (by omega)), if_pos (show nI k < (16 : Int32) from nI_lt (b := 16) (by omega) (by omega)), if_pos (hx_in (by omega) (by omega)), nI_clamp (by omega), r2 k l[k] (List.getElem?_eq_getElem hkl)]
    · have q2' : (hs_wL μ 69 0 0 w).2 40 0 k = l[k] := by
        rw [hx_rl, if_neg (by omega)]
        exact q2 k l[k] (List.getElem?_eq_getElem hkl)
      rw [hq_M_row, er (hs_wL μ 69 0 0 w) q1, hx_bI, hx_tn0, if_pos c, ex, if_pos (hx_in (by omega) (by omega)), nI_clamp (by omega), hx_rd2, q2']
  · have c' : ¬ (0 ≤ x.toInt ∧ x.toInt ≤ (l.length : Int) - 1) := fun z => c (decide_eq_true z)
    right
    refine ⟨⟨27, [none, none], by unfold hl_new; omega, ?_⟩, 0, hs_wI (hs_wI μ 12 0 0 0) 12 0 0 1, ?_, by rw [hx_rd, if_pos ⟨rfl, rfl, rfl⟩], E, t, hx_Iq0 h (hx_rf _ _) (hx_wr (hx_wr (hx_rf _ _) _ (by unfold hx_qR; omega)) _ (by unfold hx_qR; omega))⟩
    · rw [hl_t_row, r1]
      by_cases z : x < 0
      · rw [if_pos z]
      · rw [if_neg z, if_neg (by rw [hx_li] at *; omega)]
    · rw [hq_M_row, er μ q1, hx_bI, hx_tn0, if_neg c]
theorem hx_of2 (d : Nat) {n : Nat} {E : hx_Env} {t : hx_St} {μ : hs_M} (h : hx_I n E t μ) (x y : Int32) : hx_T2 n μ vI 113 (d + 4) [vR 11 0, vI x, vI y] (hc_H_of (d + 5) x y) (hc_M_of (d + 5) x y) := by
  have h8 := h.1.1.1
  have h0 := hx_I0 (hx_Ia h)
  have S0 := h.2.2.1.1
  have er : hx_rg (Int64.toInt 0) (Int64.toInt 7) y = hx_rg 0 7 y := rfl
  by_cases c : hx_isP (hx_P E) x = true
  rotate_left
  · apply hx_T2f h (v := 0)
    · refine ⟨11, [none, none, none], by unfold hl_new; omega, ?_⟩
      rw [hl_t_of, hx_thas _ h.1, hx_bI, hx_tn0, if_neg c]
    · rw [hq_M_of, hx_isPM _ h0.2.1, hx_bI, hx_tn0, if_neg c, hq_M_of_25, hq_M_refuse, hx_bI]
  obtain ⟨p, hp, ex⟩ := hx_isPn c
  have i8 : hs_in (nI p) 8 = true := hx_in (by omega) (by omega)
  have i117 : hs_in (nI p) 117 = true := hx_in (by omega) (by omega)
  have cl : (nI p).toNatClampNeg = p := nI_clamp (by omega)
  by_cases c2 : hx_rg 0 7 y = true
  rotate_left
  · apply hx_T2f h (v := 0)
    · refine ⟨169, [none, none, none], by unfold hl_new; omega, ?_⟩
      have z := fun k hk => hx_rgx (n := 7) (by omega) c2 (k := k) hk
      rw [hl_t_of, hx_thas _ h.1, hx_bI, hx_tn0, if_pos c, if_neg (show ¬ y = (0 : Int32) from z 0 (by omega)), if_neg (show ¬ y = (1 : Int32) from z 1 (by omega)), if_neg (show ¬ y = (2 : Int32) from z 2 (by omega)), if_neg (show ¬ y = (3 : Int32) from z 3 (by omega)), if_neg (show ¬ y = (4 : Int32) from z 4 (by omega)), if_neg (show ¬ y = (5 : Int32) from z 5 (by omega)), if_neg (show ¬ y = (6 : Int32) from z 6 (by omega)), if_neg (show ¬ y = (7 : Int32) from z 7 (by omega))]
    · rw [hq_M_of, hx_isPM _ h0.2.1, hx_bI, hx_tn0, if_pos c, hx_inR, hx_bI, hx_tn0, er, if_neg c2, hq_M_of_25, hq_M_refuse, hx_bI]
  obtain ⟨k, hk, ey⟩ := hx_rgN (n := 7) c2
  have k8 : k = 0 ∨ k = 1 ∨ k = 2 ∨ k = 3 ∨ k = 4 ∨ k = 5 ∨ k = 6 ∨ k = 7 := by omega
  rw [ey] at c2 er
  rw [ex] at c
  rw [ex, ey]
  rcases k8 with rfl | rfl | rfl | rfl | rfl | rfl | rfl | rfl
  · apply hx_T2y h (v := t p)
    · rw [hq_H_of, hx_thas _ h.1, hx_bI, hx_tn0, if_pos c, if_pos (by decide), if_pos i8, cl, S0.1 p (by omega)]
    · intro μ' h'
      rw [hq_M_of, hx_isPM _ (hx_I0 (hx_Ia h')).2.1, hx_bI, hx_tn0, if_pos c, hx_inR, hx_bI, hx_tn0, er, if_pos c2, if_pos (by decide), if_pos i117, cl, hx_SR0 (hx_I0 (hx_Ia h')).2.2.2.1 (by omega)]
  · apply hx_T2y h (v := hx_Pt E p)
    · rw [hq_H_of, hx_thas _ h.1, hx_bI, hx_tn0, if_pos c, if_neg (by decide), if_pos (by decide), if_pos i8, cl, h.1.2.2.1 p hp]
    · intro μ' h'
      rw [hq_M_of, hx_isPM _ (hx_I0 (hx_Ia h')).2.1, hx_bI, hx_tn0, if_pos c, hx_inR, hx_bI, hx_tn0, er, if_pos c2, if_neg (by decide), if_pos (by decide), if_pos i8, cl, (hx_I0 (hx_Ia h')).2.1.2.2.1 p hp]
  · apply hx_T2y h (v := hx_Il E p)
    · rw [hq_H_of, hx_thas _ h.1, hx_bI, hx_tn0, if_pos c, if_neg (by decide), if_neg (by decide), if_pos (by decide), if_pos i8, cl, h.1.2.2.2.1 p hp]
    · intro μ' h'
      rw [hq_M_of, hx_isPM _ (hx_I0 (hx_Ia h')).2.1, hx_bI, hx_tn0, if_pos c, hx_inR, hx_bI, hx_tn0, er, if_pos c2, if_neg (by decide), if_neg (by decide), if_pos (by decide), if_pos i8, cl, (hx_I0 (hx_Ia h')).2.1.2.2.2.1 p hp]
  · apply hx_T2y h (v := hx_tn (bt (t 16) p))
    · rw [hq_H_of, hx_thas _ h.1, hx_bI, hx_tn0, if_pos c, if_neg (by decide), if_neg (by decide), if_neg (by decide), if_pos (by decide), hx_lives _ _ (by omega), hx_bI, hx_tn0, S0.2.2.1]
      cases bt (t 16) p <;> rfl
    · intro μ' h'
      rw [hq_M_of, hx_isPM _ (hx_I0 (hx_Ia h')).2.1, hx_bI, hx_tn0, if_pos c, hx_inR, hx_bI, hx_tn0, er, if_pos c2, if_neg (by decide), if_neg (by decide), if_neg (by decide), if_pos (by decide), hx_has _ _ (by omega), hx_bI, hx_SR0 (hx_I0 (hx_Ia h')).2.2.2.1 (by omega), hx_flag, hx_bI]
  · apply hx_T2y h (v := t (8 + p))
    · rw [hq_H_of, hx_thas _ h.1, hx_bI, hx_tn0, if_pos c, if_neg (by decide), if_neg (by decide), if_neg (by decide), if_neg (by decide), if_pos (by decide), if_pos i8, cl, S0.2.1 p (by omega)]
    · intro μ' h'
      rw [hq_M_of, hx_isPM _ (hx_I0 (hx_Ia h')).2.1, hx_bI, hx_tn0, if_pos c, hx_inR, hx_bI, hx_tn0, er, if_pos c2, if_neg (by decide), if_neg (by decide), if_neg (by decide), if_neg (by decide), if_pos (by decide), show (8 : Int32) + nI p = nI (8 + p) from nI_add 8 p, if_pos (hx_in (by omega) (by omega)), nI_clamp (by omega), hx_SR0 (hx_I0 (hx_Ia h')).2.2.2.1 (by omega)]
  · apply hx_T2y h (v := hx_sw E (t p))
    · rw [hq_H_of, hx_thas _ h.1, hx_bI, hx_tn0, if_pos c, if_neg (by decide), if_neg (by decide), if_neg (by decide), if_neg (by decide), if_neg (by decide), if_pos (by decide), if_pos i8, cl, S0.1 p (by omega), hx_eS h.1, hx_bI]
    · intro μ' h'
      rw [hq_M_of, hx_isPM _ (hx_I0 (hx_Ia h')).2.1, hx_bI, hx_tn0, if_pos c, hx_inR, hx_bI, hx_tn0, er, if_pos c2, if_neg (by decide), if_neg (by decide), if_neg (by decide), if_neg (by decide), if_neg (by decide), if_pos (by decide), if_pos i117, cl, hx_SR0 (hx_I0 (hx_Ia h')).2.2.2.1 (by omega), hx_rS (hx_I0 (hx_Ia h')).2.1, hx_bI]
  · obtain ⟨μ1, e1, f1⟩ := hx_value (d + 2) h.1 h.2.2.2.2.1 S0 hp
    have q1 : hx_fr hx_qC μ μ1 := hx_mo (fun κ b i x => by unfold hx_xW at x; unfold hx_qC; omega) f1
    refine Or.inl ⟨hx_ww E t p, μ1, ?_, fun w => ?_⟩
    · rw [hq_H_of, hx_thas _ h.1, hx_bI, hx_tn0, if_pos c, if_neg (by decide), if_neg (by decide), if_neg (by decide), if_neg (by decide), if_neg (by decide), if_neg (by decide), if_pos (by decide), e1, hx_bI]
    · have hI := hx_I0 (hx_I69' (hx_Ir h (hx_qCX q1)) w)
      obtain ⟨μ2, e2, f2⟩ := hx_willOf d (κ := 45) (Or.inl rfl) hI.2.1 hI.2.2.2.2.1 hI.2.2.2.1 hp
      have q2 : hx_fr hx_qR (hs_wI (hs_wL μ1 69 0 0 w) 12 0 0 0) μ2 := hx_mo (fun κ b i x => by unfold hx_xV at x; unfold hx_qR; omega) f2
      refine ⟨μ2, ?_, ?_, ?_, E, t, hx_Iq0 (hx_I69 h w) (hx_fr69 q1 w) (hx_tr (hx_wr (hx_rf _ _) _ (by unfold hx_qR; omega)) q2)⟩
      · rw [hq_M_of, hx_isPM _ hI.2.1, hx_bI, hx_tn0, if_pos c, hx_inR, hx_bI, hx_tn0, er, if_pos c2, if_neg (by decide), if_neg (by decide), if_neg (by decide), if_neg (by decide), if_neg (by decide), if_neg (by decide), if_pos (by decide), e2, hx_bI]
      · rw [f2.1 12 0 0 (by unfold hx_xV; omega), hx_rd, if_pos ⟨rfl, rfl, rfl⟩]
      · rw [f2.2 69 0 0 (by unfold hx_xV; omega), hx_rd2, hx_w69]
  · apply hx_T2y h (v := nI (hx_Hl E p))
    · rw [hq_H_of, hx_thas _ h.1, hx_bI, hx_tn0, if_pos c, if_neg (by decide), if_neg (by decide), if_neg (by decide), if_neg (by decide), if_neg (by decide), if_neg (by decide), if_neg (by decide), if_pos (by decide), if_pos i8, cl, h.1.2.2.2.2.1 p hp]
    · intro μ' h'
      rw [hq_M_of, hx_isPM _ (hx_I0 (hx_Ia h')).2.1, hx_bI, hx_tn0, if_pos c, hx_inR, hx_bI, hx_tn0, er, if_pos c2, if_neg (by decide), if_neg (by decide), if_neg (by decide), if_neg (by decide), if_neg (by decide), if_neg (by decide), if_neg (by decide), if_pos i8, cl, (hx_I0 (hx_Ia h')).2.1.2.2.2.2.1 p hp]
theorem hx_fool2 (d : Nat) {n : Nat} (hn : n ≤ 512) {E : hx_Env} {t : hx_St} {μ : hs_M} (h : hx_I n E t μ) (x y : Int32) : hx_T2 n μ vI 136 (d + 6) [vR 11 0, vI x, vI y] (hc_H_fool (d + 7) x y) (hc_M_fool (d + 7) x y) := by
  have h8 := h.1.1.1
  have h0 := hx_I0 (hx_Ia h)
  by_cases c : hx_isP (hx_P E) x = true
  · by_cases c2 : hx_rg 0 99 y = true
    · obtain ⟨k, hk, ey⟩ := hx_rgN (n := 99) c2
      obtain ⟨p, hp, ex⟩ := hx_isPn c
      obtain ⟨μ1, e1, f1, s1⟩ := hx_run d h.1 h.2.2.2.2.1 h.2.2.1.1 255 (n := k) (by omega)
      have q1 := hx_xSq (by omega) f1
      have E1 := hx_ECq (hx_qCX q1) h.1
      have S1 := hx_SCq (hx_qCX q1) (by omega) h.2.2.1.1
      obtain ⟨μ2, e2, f2, s2⟩ := hx_run d E1 h.2.2.2.2.1 S1 (255 &&& (((1 : Int32) <<< (nI p &&& 31)) ^^^ (-1))) (n := k) (by omega)
      have q2 := hx_xSq (by omega) f2
      have E2 := hx_ECq (hx_qCX q2) E1
      have S2 := hx_SCq (hx_qCX q2) (by omega) S1
      obtain ⟨μ3, e3, f3, r3⟩ := hx_begin (d + 3) μ2 (hx_gp E (hx_by E 255 t k) t (hx_Pt E p) (hx_P E)).toInt64
      obtain ⟨μ4, e4, f4, r4⟩ := hx_add (d + 4) r3 (by show 1 < 16; omega) (hx_gp E (hx_by E (255 &&& (((1 : Int32) <<< (nI p &&& 31)) ^^^ (-1))) t k) t (hx_Pt E p) (hx_P E)).toInt64
      have q4 := hx_tr (hx_tr (hx_qCX q1) (hx_qCX q2)) (hx_tr (hx_xRq f3) (hx_xRq f4))
      refine Or.inl ⟨hx_gp E (hx_by E 255 t k) t (hx_Pt E p) (hx_P E) - hx_gp E (hx_by E (255 &&& (((1 : Int32) <<< (nI p &&& 31)) ^^^ (-1))) t k) t (hx_Pt E p) (hx_P E), μ4, ?_, fun w => ?_⟩
      · rw [hq_H_fool, hx_thas _ h.1, hx_bI, hx_tn0, if_pos c, hx_i99, if_pos c2, ex, ey, hq_Future_foolsWorth, if_pos (hx_in (by omega) (by omega)), nI_clamp (by omega), h.1.2.2.1 p hp, e1, hx_bV, hx_gop _ E1 s1 S1, hx_bI, e2, hx_bV, hx_gop _ E2 s2 S2, hx_bI, e3, hx_bV, e4, hx_bV, hx_bI]
      · have hI := hx_I0 (hx_I69' (hx_Ir h q4) w)
        obtain ⟨μ5, μ6, e5, e6, f6, s6, g6⟩ := hx_stBy d hI.2.1 (hx_nv0 h8) hI.2.2.2.2.1 hI.2.2.2.1 (n := k) (by omega)
        have E6 := hx_ERN f6 hI.2.1
        have S6 := hx_SRq (hx_qRY (hx_yNq f6)) hI.2.2.2.1
        obtain ⟨μ7, μ8, e7, e8, f8, s8, g8⟩ := hx_stBy d E6 (hx_nv1 h8 hp) hI.2.2.2.2.1 S6 (n := k) (by omega)
        have E8 := hx_ERN f8 E6
        obtain ⟨μ9, e9, f9, r9⟩ := hx_ent (d + 5) (hx_rwz μ8) (by decide) (hx_gp E (hx_by E 255 t k) t (hx_Pt E p) (hx_P E)).toInt64
        obtain ⟨μ10, e10, f10, r10⟩ := hx_ent (d + 5) r9 (by show 1 < 16; omega) (hx_gp E (hx_by E (255 &&& (((1 : Int32) <<< (nI p &&& 31)) ^^^ (-1))) t k) t (hx_Pt E p) (hx_P E)).toInt64
        have R4 : hx_rwC (hs_wL μ4 69 0 0 w) _ := ⟨r4.1, r4.2.1, fun i v e => by rw [hx_rl, if_neg (by omega)]; exact r4.2.2 i v e⟩
        refine ⟨μ10, ?_, ?_, ?_, E, t, hx_Iq1 (hx_I69 h w) (hx_fr69 q4 w) R4 ?_ r10⟩
        · rw [hq_M_fool, hx_isPM _ hI.2.1, hx_bI, hx_tn0, if_pos c, hx_weeks, hx_bI, hx_tn0, if_pos c2, ex, ey, e5, hx_bV, e6, hx_bV, if_pos (hx_in (by omega) (by omega)), nI_clamp (by omega), E6.2.2.1 p hp, hx_sb _ E6 g6, hx_bI, e7, hx_bV, e8, hx_bV, if_pos (hx_in (by omega) (by omega)), E8.2.2.1 p hp, hx_sb _ E8 g8, hx_bI, e9, hx_bV, e10, hx_bV]
        · rw [f10.1 12 0 0 (by unfold hx_yR; omega), f9.1 12 0 0 (by unfold hx_yR; omega), hx_rd, if_neg (by omega), f8.1 12 0 0 (by unfold hx_yN; omega), f6.1 12 0 0 (by unfold hx_yN; omega), hx_rd, if_pos ⟨rfl, rfl, rfl⟩]
        · rw [f10.2 69 0 0 (by unfold hx_yR; omega), f9.2 69 0 0 (by unfold hx_yR; omega), hx_rd2, f8.2 69 0 0 (by unfold hx_yN; omega), f6.2 69 0 0 (by unfold hx_yN; omega), hx_rd2, hx_w69]
        · exact hx_tr (hx_tr (hx_tr (hx_tr (hx_wr (hx_rf _ _) _ (by unfold hx_qY hx_qR; omega)) (hx_qRY (hx_yNq f6))) (hx_qRY (hx_yNq f8))) (hx_wr (hx_rf _ _) _ (by unfold hx_qY; omega))) (hx_tr (hx_yRq f9) (hx_yRq f10))
    · apply hx_T2f h (v := 0)
      · refine ⟨21, [none, none, none], by unfold hl_new; omega, ?_⟩
        rw [hl_t_fool, hx_thas _ h.1, hx_bI, hx_tn0, if_pos c, hx_i99, if_neg c2]
      · rw [hq_M_fool, hx_isPM _ h0.2.1, hx_bI, hx_tn0, if_pos c, hx_weeks, hx_bI, hx_tn0, if_neg c2, hq_M_fool_20, hq_M_refuse, hx_bI]
  · apply hx_T2f h (v := 0)
    · refine ⟨21, [none, none, none], by unfold hl_new; omega, ?_⟩
      rw [hl_t_fool, hx_thas _ h.1, hx_bI, hx_tn0, if_neg c]
    · rw [hq_M_fool, hx_isPM _ h0.2.1, hx_bI, hx_tn0, if_neg c, hq_M_fool_20, hq_M_refuse, hx_bI]
