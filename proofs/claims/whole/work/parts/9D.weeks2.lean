/-! ===== E: weeks, the call ===== -/
theorem hx_wkCe (d : Nat) {m : Nat} (hm : m ≤ 99) {μ : hs_M} {t : hx_St} (hs : hx_SF μ 0 t) (c f : Int32) : ∃ μ1, he_H_weeks_34 (d + 5) (nI m) c f (nI m) μ = some (some (vI c), μ1) ∧ hx_fr hx_xR μ μ1 ∧ hx_rwC μ1 [(t 17).toInt64, f.toInt64] := by
  obtain ⟨μb, a1, a2, a3⟩ := hx_begin (d + 3) μ (t 17).toInt64
  obtain ⟨μ1, b1, b2, b3⟩ := hx_add (d + 4) a3 (by show 1 < 16; omega) f.toInt64
  refine ⟨μ1, ?_, hx_tr a2 b2, b3⟩
  rw [hq_H_weeks_34, if_neg (nI_nlt (Nat.le_refl _) (by omega)), hs.1.2.2.2.1, a1, hx_bV, b1, hx_bV]
theorem hx_wkRe (d : Nat) {m : Nat} (hm : m ≤ 99) {μ : hs_M} {t : hx_St} (hs : hx_SR μ 45 0 t) {c f : Int32} (hf : μ.1 12 0 27 = f) : ∃ μ1, he_M_weeks_36 (d + 5) (nI m) c (nI m) μ = some (some (vI c), μ1) ∧ hx_fr hx_yR μ μ1 ∧ hx_rwR μ1 [(t 17).toInt64, f.toInt64] := by
  have fe : hx_fr hx_yR μ (hs_wI μ 12 0 1 0) := hx_wr (hx_rf _ _) _ (Or.inl ⟨rfl, rfl⟩)
  obtain ⟨μ5, e5, g5, r5⟩ := hx_ent (d + 4) (hx_rwz μ) (by show 0 < 16; omega) (t 17).toInt64
  obtain ⟨μ6, e6, g6, r6⟩ := hx_ent (d + 4) r5 (by show 1 < 16; omega) f.toInt64
  refine ⟨μ6, ?_, hx_tr fe (hx_tr g5 g6), r6⟩
  rw [hq_M_weeks_36, if_neg (nI_nlt (Nat.le_refl _) (by omega)), hx_SR0 hs (by omega), e5, hx_bV, (hx_tr fe g5).1 12 0 27 (by unfold hx_yR; omega), hf, e6, hx_bV]
theorem hx_weeks' (d : Nat) {n : Nat} (hn : n ≤ 512) {E : hx_Env} {t : hx_St} {μ : hs_M} (h : hx_I n E t μ) (x : Int32) : hx_A n μ (hc_H_weeks (d + 6) x) (hc_M_weeks (d + 6) x) := by
  have h8 := h.1.1.1
  have er : hx_rg (Int64.toInt 0) (Int64.toInt 99) x = hx_rg 0 99 x := rfl
  have ec : ∀ A B : Option (Option hs_V × hs_M), (if x < 0 then A else if 99 < x then A else B) = if hx_rg 0 99 x = true then B else A := fun A B => hx_if2 x 0 99 A B
  by_cases c : hx_rg 0 99 x = true
  rotate_left
  · exact hx_Anone h (v := -1) (by rw [hq_H_weeks, ec, if_neg c, hq_H_weeks_10]) (by rw [hq_M_weeks, hx_inR, hx_bI, hx_tn0, er, if_neg c])
  obtain ⟨m, hm, ex⟩ := hx_rgN (n := 99) c
  have ht := fun k (hk : k ≤ 99) => hx_bytw h8 255 h.2.2.2.2.1 k (by omega)
  by_cases c0 : m = 0
  · have nx : ¬ 0 < x := by rw [ex, c0]; decide
    have x0 : x = nI 0 := by rw [ex, c0]
    obtain ⟨μ1, e1, f1, r1⟩ := hx_wkCe d (m := 0) (by omega) h.2.2.1 0 0
    have f2 : hx_fr (fun κ _ i => κ = 12 ∧ (i = 0 ∨ i = 27)) μ1 (hs_wI (hs_wI μ1 12 0 0 0) 12 0 27 0) := hx_wr (hx_wr (hx_rf _ _) _ (by omega)) _ (by omega)
    obtain ⟨μ2, e2, g2, r2⟩ := hx_wkRe d (m := 0) (c := 0) (f := 0) (by omega) (hx_SRf f2 (by intro i a b; omega) (hx_SRf f1 (by intro i a b; unfold hx_xR at b; omega) h.2.2.2.1)) (by rw [hx_rd, if_pos ⟨rfl, rfl, rfl⟩])
    have k2 : hx_fr (fun κ b i => (κ = 12 ∧ (i = 0 ∨ i = 27)) ∨ hx_yR κ b i) μ1 μ2 := hx_tr (hx_mo (fun _ _ _ z => Or.inl z) f2) (hx_mo (fun _ _ _ z => Or.inr z) g2)
    refine hx_Amk (v := 0) (μ1 := μ1) (μ2 := μ2) (E := E) (t := t) ?_ ?_ ?_
    · rw [hq_H_weeks, ec, if_pos c, if_neg nx, hq_H_weeks_27, x0]
      exact e1
    · rw [hq_M_weeks, hx_inR, hx_bI, hx_tn0, er, if_pos c, if_neg nx, hq_M_weeks_27, x0]
      exact e2
    · obtain ⟨a, b, cc, e, g, h1, h2, h3, h4, h5, h6⟩ := hx_Ix h f1 k2
      refine ⟨a ?_, b ?_, cc ?_, e ?_, g, h1 ?_, ⟨_, hx_rwCf k2 (by intro κ i a b; unfold hx_yR at b; omega) r1, r2⟩, h3 ?_, h4 ?_, h5 ?_, h6 ?_⟩ <;> intros <;> simp only [hx_cF, hx_rF, hx_fP, hx_fK, hx_fW, hx_fD, hx_fT, hx_xR, hx_yR] at * <;> omega
  have px : 0 < x := by
    rw [ex]
    exact nI_lt (a := 0) (by omega) (by omega)
  obtain ⟨μr, e1, f1, hE, hS, K⟩ := hx_past (d + 2) (d + 4) h
  obtain ⟨μw, e2, f2, s2⟩ := hx_wkC d h8 hm (by omega) ht m 0 μr (by omega) hE hS
  obtain ⟨μ1, e3, f3, r3⟩ := hx_wkCe d hm s2 (hx_kc E t m) (hx_kf E t m)
  have fX : hx_fr (fun κ b i => hx_xS 0 κ b i ∨ hx_xR κ b i) μr μ1 := hx_tr (hx_mo (fun _ _ _ z => Or.inl z) f2) (hx_mo (fun _ _ _ z => Or.inr z) f3)
  have s3 := hx_SFf f3 (by intro κ i a b; unfold hx_xR at b; omega) s2
  obtain ⟨μp, e4, g3, er0, sr0, erp, srp, mk⟩ := K _ μ1 fX (fun κ b i z => by unfold hx_xS hx_xR at z; unfold hx_vX hx_qX hx_qC; omega)
  have fz : hx_fr (fun κ _ i => κ = 54 ∨ κ = 45 ∨ (κ = 12 ∧ i = 27)) μp (hs_wI μp 12 0 27 0) := hx_wr (hx_rf _ _) _ (Or.inr (Or.inr ⟨rfl, rfl⟩))
  have srz : hx_SR (hs_wI μp 12 0 27 0) 45 0 t := hx_SRf (X := fun κ _ _ => κ = 12) (hx_wr (hx_rf _ _) _ rfl) (by intro i a b; omega) srp
  obtain ⟨μg, e5, g5, s5, r5⟩ := hx_wkR d h8 hm (by omega) ht m 0 (hs_wI μp 12 0 27 0) (by omega) (hx_ERf fz (by intro κ i a b; unfold hx_rF at a; omega) erp) srz (by rw [hx_rd, if_pos ⟨rfl, rfl, rfl⟩]; rfl)
  obtain ⟨μ2, e6, g6, r6⟩ := hx_wkRe d hm (c := hx_kc E t m) s5 r5
  refine hx_Amk (v := hx_kc E t m) (μ1 := μ1) (μ2 := μ2) (E := E) (t := hx_by E 255 t m) ?_ ?_ ?_
  · rw [hq_H_weeks, ec, if_pos c, if_pos px, e1, hx_bV, hq_H_weeks_27, ex]
    exact e2.trans e3
  · rw [hq_M_weeks, hx_inR, hx_bI, hx_tn0, er, if_pos c, if_pos px, e4, hx_bV, hq_M_weeks_27, ex]
    exact e5.trans e6
  · have fy : hx_fr (fun κ b i => (κ = 54 ∨ κ = 45 ∨ (κ = 12 ∧ i = 27)) ∨ hx_yR κ b i) μp μ2 := hx_tr (hx_mo (fun _ _ _ z => Or.inl z) (hx_tr fz g5)) (hx_mo (fun _ _ _ z => Or.inr z) g6)
    have fw : hx_fr (fun κ _ i => κ = 12 ∧ i = 0) μ1 (hs_wI μ1 12 0 0 0) := hx_wr (hx_rf _ _) _ ⟨rfl, rfl⟩
    refine mk _ _ _ fy (fun κ b i z => by unfold hx_yR at z; unfold hx_vY hx_qY hx_qR; omega) ?_ (hx_SRf g6 (by intro i a b; unfold hx_yR at b; omega) s5) (hx_twm (ht m hm) (by omega)) (Or.inr ⟨_, ?_, r6⟩)
    · exact hx_SFf fy (by intro κ i a b; unfold hx_yR at b; omega) (hx_SFf g3 (by intro κ i a b; unfold hx_pY at b; omega) (hx_SFf fw (by intro κ i a b; omega) s3))
    · exact hx_rwCf fy (by intro κ i a b; unfold hx_yR at b; omega) (hx_rwCf g3 (by intro κ i a b; unfold hx_pY at b; omega) (hx_rwCf fw (by intro κ i a b; omega) r3))
