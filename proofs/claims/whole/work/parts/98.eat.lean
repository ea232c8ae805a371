/-! ===== E: a step that can be undone; feed, fast ===== -/
def hx_vX (κ b i : Nat) : Prop := ((κ = 6 ∨ (24 ≤ κ ∧ κ ≤ 29)) ∧ b = 0) ∨ hx_qX κ b i
def hx_vY (κ b i : Nat) : Prop := κ = 45 ∨ hx_qY κ b i
theorem hx_past (d e : Nat) {n : Nat} {E : hx_Env} {t : hx_St} {μ : hs_M} (h : hx_I n E t μ) : ∃ μr, hc_Past_remember (d + 3) 0 μ = some (none, μr) ∧ hx_fr hx_pX μ μr ∧ hx_EC μr E ∧ hx_SF μr 0 t ∧ ∀ (X : Nat → Nat → Nat → Prop) (μ1 : hs_M), hx_fr X μr μ1 → (∀ κ b i, X κ b i → hx_vX κ b i) → ∃ μp, hc_M_putsBy (e + 1) (hs_wI μ1 12 0 0 0) = some (none, μp) ∧ hx_fr hx_pY (hs_wI μ1 12 0 0 0) μp ∧ hx_ER (hs_wI μ1 12 0 0 0) E ∧ hx_SR (hs_wI μ1 12 0 0 0) 45 0 t ∧ hx_ER μp E ∧ hx_SR μp 45 0 t ∧ ∀ (Y : Nat → Nat → Nat → Prop) (μ2 : hs_M) (t' : hx_St), hx_fr Y μp μ2 → (∀ κ b i, Y κ b i → hx_vY κ b i) → hx_SF μ2 0 t' → hx_SR μ2 45 0 t' → hx_tw (hx_P E) (100 * (n + 1)) t' → ((∀ κ i, ((κ = 4 ∧ i = 1) ∨ κ = 14 ∨ (κ = 12 ∧ i = 1) ∨ κ = 40) → ¬ X κ 0 i ∧ ¬ Y κ 0 i) ∨ hx_iR μ2) → hx_I (n + 1) E t' μ2 := by
  obtain ⟨s, f, u, pc, pr, tw⟩ := hx_iPo h.2.2.2.2.2.2.2.1
  obtain ⟨μr, f', e1, f1, c1⟩ := hx_remC d pc h.2.2.1
  refine ⟨μr, e1, f1, hx_ECf f1 (by intro κ i a b; unfold hx_cF at a; unfold hx_pX at b; omega) h.1, hx_SFf f1 (by intro κ i a b; unfold hx_pX at b; omega) h.2.2.1, fun X μ1 fX hX => ?_⟩
  have fx := hx_mo hX fX
  have g1 : hx_fr (fun κ b i => hx_pX κ b i ∨ X κ b i) μ μ1 := hx_tr (hx_mo (fun _ _ _ x => Or.inl x) f1) (hx_mo (fun _ _ _ x => Or.inr x) fX)
  have g1' : hx_fr (fun κ b i => hx_pX κ b i ∨ hx_vX κ b i) μ μ1 := hx_mo (fun κ b i x => x.imp id (hX κ b i)) g1
  have fw : hx_fr (fun κ _ i => κ = 12 ∧ i = 0) μ1 (hs_wI μ1 12 0 0 0) := hx_wr (hx_rf _ _) _ ⟨rfl, rfl⟩
  have sr0 : hx_SR (hs_wI μ1 12 0 0 0) 45 0 t := hx_SRf fw (by intro i a b; omega) (hx_SRf g1' (by intro i a b; unfold hx_pX hx_vX hx_qX hx_qC at b; omega) h.2.2.2.1)
  have er0 : hx_ER (hs_wI μ1 12 0 0 0) E := hx_ERf fw (by intro κ i a b; unfold hx_rF at a; omega) (hx_ERf g1' (by intro κ i a b; unfold hx_rF at a; unfold hx_pX hx_vX hx_qX hx_qC at b; omega) h.2.1)
  have pr0 : hx_pR (hs_wI μ1 12 0 0 0) s u := hx_pRf fw (by intro κ b i a b; unfold hx_pY at a; omega) (hx_pRf g1' (by intro κ b i a b; unfold hx_pY at a; unfold hx_pX hx_vX hx_qX hx_qC at b; omega) pr)
  obtain ⟨μp, e2, f2, r2⟩ := hx_remR e pc.1 pr0 sr0
  refine ⟨μp, e2, f2, er0, sr0, hx_ERf f2 (by intro κ i a b; unfold hx_rF at a; unfold hx_pY at b; omega) er0, hx_SRf f2 (by intro i a b; unfold hx_pY at b; omega) sr0, fun Y μ2 t' fY hY hS hR ht hr => ?_⟩
  have fy := hx_mo hY fY
  have g2 : hx_fr (fun κ b i => (κ = 12 ∧ i = 0) ∨ hx_pY κ b i ∨ Y κ b i) μ1 μ2 := hx_tr (hx_tr (hx_mo (fun _ _ _ x => Or.inl x) fw) (hx_mo (fun _ _ _ x => Or.inr (Or.inl x)) f2)) (hx_mo (fun _ _ _ x => Or.inr (Or.inr x)) fY)
  have g2' : hx_fr (fun κ b i => (κ = 12 ∧ i = 0) ∨ hx_pY κ b i ∨ hx_vY κ b i) μ1 μ2 := hx_mo (fun κ b i x => x.imp id (fun y => y.imp id (hY κ b i))) g2
  have hr' : hx_iR μ2 := by
    rcases hr with hr | hr
    · refine (hx_Ix h g1 g2).2.2.2.2.2.2.1 (fun κ i x => ⟨fun y => y.elim ?_ (hr κ i x).1, fun y => y.elim ?_ (fun z => z.elim ?_ (hr κ i x).2)⟩)
      · unfold hx_pX
        omega
      · omega
      · unfold hx_pY
        omega
    · exact hr
  refine hx_Ist h g1' g2' (fun κ j i x => ?_) (fun κ j i x => ?_) hS hR ht hr' (hx_iPk (hx_pCf g2' ?_ (hx_pCf fx ?_ c1)) (hx_pRf fy ?_ r2) (fun k hk => hx_twm (hx_ustw pc.1 tw h.2.2.2.2.1 k hk) (by omega)))
  · unfold hx_pX hx_vX hx_qX hx_qC at x
    unfold hx_zX hx_qX hx_qC
    omega
  · unfold hx_pY hx_vY hx_qY hx_qR at x
    unfold hx_zY hx_qY hx_qR
    omega
  · intro κ b i a b
    unfold hx_pX at a
    unfold hx_pY hx_vY hx_qY hx_qR at b
    omega
  · intro κ b i a b
    unfold hx_pX at a
    unfold hx_vX hx_qX hx_qC at b
    omega
  · intro κ b i a b
    unfold hx_pY at a
    unfold hx_vY hx_qY hx_qR at b
    omega
theorem hx_eatA (d : Nat) {n : Nat} {E : hx_Env} {t : hx_St} {μ : hs_M} (h : hx_I n E t μ) (x y r v : Int32) (hv : r * y = v) (hA : hx_isA (hx_P E) t x = true) (hr : hx_rg 1 99 y = true) : ∃ w μ1 μ2, hc_H_eat (d + 4) x y r μ = some (some (vI w), μ1) ∧ hc_M_eats (d + 4) x v (hs_wI μ1 12 0 0 0) = some (some (vI w), μ2) ∧ hx_ER (hs_wI μ1 12 0 0 0) E ∧ hx_SR (hs_wI μ1 12 0 0 0) 45 0 t ∧ ∃ E' t', hx_I (n + 1) E' t' μ2 := by
  have h8 := h.1.1.1
  have ec : ∀ A B : Option (Option hs_V × hs_M), (if y < 1 then A else if 99 < y then A else B) = if hx_rg 1 99 y = true then B else A := fun A B => hx_if2 y 1 99 A B
  obtain ⟨p, hp, ex, _⟩ := hx_isAn h8 hA
  obtain ⟨μr, e1, f1, hE, hS, K⟩ := hx_past d (d + 2) h
  obtain ⟨μ1, e2, f2, _, s2⟩ := hx_putW (d + 1) (p := p) hS.1 (by omega) v
  obtain ⟨μp, e3, f3, er0, sr0, er, sr, mk⟩ := K _ μ1 f2 (fun κ b i x => Or.inl ⟨by omega, x.2.1⟩)
  have s3 := s2 hS
  have fdp : hx_fd t p v p = hx_ic (t p + v) := if_pos rfl
  refine ⟨hx_ic (t p + v), μ1, hs_wI μp 45 0 p (hx_ic (t p + v)), ?_, ?_, er0, sr0, E, hx_fd t p v, ?_⟩
  · rw [hq_H_eat, hx_there _ h.1 h.2.2.1.1, hx_bI, hx_tn0, if_pos hA, ec, if_pos hr, e1, hx_bV, ex, if_pos (hx_in (by omega) (by omega)), nI_clamp (by omega), hS.1.1 p (by omega), hv, e2, hx_bV, if_pos (hx_in (by omega) (by omega)), s3.1.1 p (by omega), fdp]
  · rw [hq_M_eats, e3, hx_bV, ex, if_pos (hx_in (by omega) (by omega)), nI_clamp (by omega), hx_SR0 sr (by omega), hx_min, hx_bI, hx_max, hx_bI, hx_mm, if_pos (hx_in (by omega) (by omega)), if_pos (hx_in (by omega) (by omega)), hx_rd, if_pos ⟨rfl, rfl, rfl⟩]
  · have fy : hx_fr (fun κ _ _ => κ = 45) μp (hs_wI μp 45 0 p (hx_ic (t p + v))) := hx_wr (hx_rf _ _) _ rfl
    have fw : hx_fr (fun κ _ i => κ = 12 ∧ i = 0) μ1 (hs_wI μ1 12 0 0 0) := hx_wr (hx_rf _ _) _ ⟨rfl, rfl⟩
    refine mk _ _ _ fy (fun κ b i x => Or.inl x) ?_ ?_ ?_ (Or.inl (fun κ i x => ⟨by omega, by omega⟩))
    · exact hx_SFf fy (by intro κ i a b; omega) (hx_SFf f3 (by intro κ i a b; unfold hx_pY at b; omega) (hx_SFf fw (by intro κ i a b; omega) s3))
    · exact hx_SRw sr fdp (fun i _ z => if_neg z)
    · exact hx_twm (hx_fdtw h8 h.2.2.2.2.1 hp v) (by omega)
theorem hx_feed (d : Nat) {n : Nat} {E : hx_Env} {t : hx_St} {μ : hs_M} (h : hx_I n E t μ) (x y : Int32) : hx_A n μ (hc_H_feed (d + 5) x y) (hc_M_feed (d + 5) x y) := by
  have h0 := hx_I0 (hx_Ia h)
  have er : hx_rg (Int64.toInt 1) (Int64.toInt 99) y = hx_rg 1 99 y := rfl
  have ec : ∀ A B : Option (Option hs_V × hs_M), (if y < 1 then A else if 99 < y then A else B) = if hx_rg 1 99 y = true then B else A := fun A B => hx_if2 y 1 99 A B
  by_cases hA : hx_isA (hx_P E) t x = true
  rotate_left
  · apply hx_Anone h (v := -1)
    · rw [hq_H_feed, hq_H_eat, hx_there _ h.1 h.2.2.1.1, hx_bI, hx_tn0, if_neg hA, hq_H_eat_19, hx_bI]
    · rw [hq_M_feed, hx_isAM _ h0.2.1 h0.2.2.2.1, hx_bI, hx_tn0, if_neg hA, hq_M_feed_34]
  by_cases hr : hx_rg 1 99 y = true
  rotate_left
  · apply hx_Anone h (v := -1)
    · rw [hq_H_feed, hq_H_eat, hx_there _ h.1 h.2.2.1.1, hx_bI, hx_tn0, if_pos hA, ec, if_neg hr, hq_H_eat_19, hx_bI]
    · rw [hq_M_feed, hx_isAM _ h0.2.1 h0.2.2.2.1, hx_bI, hx_tn0, if_pos hA, hx_inR, hx_bI, hx_tn0, er, if_neg hr, hq_M_feed_34]
  obtain ⟨w, μ1, μ2, e1, e2, a, b, E', t', hI⟩ := hx_eatA d h x y 1 y (Int32.one_mul _) hA hr
  refine hx_Amk (v := w) (μ1 := μ1) (μ2 := μ2) ?_ ?_ hI
  · rw [hq_H_feed, e1, hx_bI]
  · rw [hq_M_feed, hx_isAM _ a b, hx_bI, hx_tn0, if_pos hA, hx_inR, hx_bI, hx_tn0, er, if_pos hr, e2, hx_bI]
theorem hx_fast (d : Nat) {n : Nat} {E : hx_Env} {t : hx_St} {μ : hs_M} (h : hx_I n E t μ) (x y : Int32) : hx_A n μ (hc_H_fast (d + 5) x y) (hc_M_fast (d + 5) x y) := by
  have h0 := hx_I0 (hx_Ia h)
  have er : hx_rg (Int64.toInt 1) (Int64.toInt 99) y = hx_rg 1 99 y := rfl
  have ec : ∀ A B : Option (Option hs_V × hs_M), (if y < 1 then A else if 99 < y then A else B) = if hx_rg 1 99 y = true then B else A := fun A B => hx_if2 y 1 99 A B
  by_cases hA : hx_isA (hx_P E) t x = true
  rotate_left
  · apply hx_Anone h (v := -1)
    · rw [hq_H_fast, hq_H_eat, hx_there _ h.1 h.2.2.1.1, hx_bI, hx_tn0, if_neg hA, hq_H_eat_19, hx_bI]
    · rw [hq_M_fast, hx_isAM _ h0.2.1 h0.2.2.2.1, hx_bI, hx_tn0, if_neg hA, hq_M_fast_35]
  by_cases hr : hx_rg 1 99 y = true
  rotate_left
  · apply hx_Anone h (v := -1)
    · rw [hq_H_fast, hq_H_eat, hx_there _ h.1 h.2.2.1.1, hx_bI, hx_tn0, if_pos hA, ec, if_neg hr, hq_H_eat_19, hx_bI]
    · rw [hq_M_fast, hx_isAM _ h0.2.1 h0.2.2.2.1, hx_bI, hx_tn0, if_pos hA, hx_inR, hx_bI, hx_tn0, er, if_neg hr, hq_M_fast_35]
  obtain ⟨w, μ1, μ2, e1, e2, a, b, E', t', hI⟩ := hx_eatA d h x y (-1) (-y) (Int32.neg_eq_neg_one_mul y).symm hA hr
  refine hx_Amk (v := w) (μ1 := μ1) (μ2 := μ2) ?_ ?_ hI
  · rw [hq_H_fast, e1, hx_bI]
  · rw [hq_M_fast, hx_isAM _ a b, hx_bI, hx_tn0, if_pos hA, hx_inR, hx_bI, hx_tn0, er, if_pos hr, e2, hx_bI]
