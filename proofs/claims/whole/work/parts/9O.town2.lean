/-! ===== E: town, the call ===== -/
set_option maxHeartbeats 8000000 in
theorem hx_town (d : Nat) {n : Nat} {E : hx_Env} {t : hx_St} {μ : hs_M} (h : hx_I n E t μ) : hx_A n μ (hc_H_town (d + 6)) (hc_M_town (d + 6)) := by
  have h8 := h.1.1.1
  obtain ⟨l, T, hl, hk, t1, t2, t3, t4, eo⟩ := hx_open h.2.2.2.2.2.1 (x := 76) (by omega)
  by_cases l0 : l = 0
  · rw [l0] at t1 t2
    exact hx_town0 d h t1 t2
  obtain ⟨k0, k1, k2, k3, k4, k5, k6, k7, _⟩ := h.1
  obtain ⟨_, w1, w2, w3, w4, w5, w6, w7, _⟩ := h.2.1
  have fa : hx_fr (fun κ b i => b = 0 ∧ ((κ = 7 ∧ i = 2) ∨ (κ = 8 ∧ (i = 7 ∨ i = 8)))) μ (hs_wI (hs_wI (hs_wI μ 7 0 2 (nI (min l 76))) 8 0 7 0) 8 0 8 0) := hx_wr (hx_wr (hx_wr (hx_rf _ _) _ (by omega)) _ (by omega)) _ (by omega)
  have hTC : hx_TC (hs_wI (hs_wI (hs_wI μ 7 0 2 (nI (min l 76))) 8 0 7 0) 8 0 8 0) (min l 76) T := ⟨by rw [hx_rd, if_neg (by omega), hx_rd, if_neg (by omega), hx_rd, if_pos ⟨rfl, rfl, rfl⟩], fun i hi => by rw [fa.1 13 0 i (by omega), t3 i hi]⟩
  obtain ⟨μb, e1, g1, g2⟩ := hx_lsC d (P := hx_P E) hk (show min l 76 ≤ l by omega) hl (8 - hx_P E) 0 _ (by omega) hTC (by rw [fa.1 7 0 1 (by omega), t1]) (by rw [hx_rd, if_neg (by omega), hx_rd, if_pos ⟨rfl, rfl, rfl⟩]; rfl) (Nat.zero_le _) (by rw [hx_rd, if_pos ⟨rfl, rfl, rfl⟩]; rfl) (fun i hi => absurd hi (by omega))
  have bt := hx_tob hk (8 - hx_P E) 0 (Nat.zero_le _)
  have hO := hx_toO hk (8 - hx_P E) 0 (Nat.zero_le _)
  -- the reference's reading, behind whatever the class did to other cells
  have ref : ∀ μ1 : hs_M, hx_fr (fun κ b i => κ < 40 ∧ κ ≠ 12) μ μ1 → ∃ ν ok, hc_M_town (d + 6) μ1 = he_M_town_29 (d + 5) (nI l) (hx_tn ok) 0 ν ∧ hx_fr (fun κ b i => b = 0 ∧ ((κ = 12 ∧ (i = 0 ∨ i = 13 ∨ i = 14 ∨ i = 15 ∨ i = 16 ∨ i = 21)) ∨ (48 ≤ κ ∧ κ ≤ 51))) μ1 ν ∧ ν.1 12 0 13 = 0 ∧ ν.1 12 0 14 = nI (hx_to T (8 - hx_P E) 0).2.1 ∧ ν.1 12 0 15 = nI (min l 76) ∧ ((ok = true ∧ (hx_to T (8 - hx_P E) 0).2.1 = l) ↔ ((hx_to T (8 - hx_P E) 0).1 = true ∧ (hx_to T (8 - hx_P E) 0).2.1 = l)) ∧ ((hx_to T (8 - hx_P E) 0).1 = true → ν.1 12 0 21 = nI (hx_to T (8 - hx_P E) 0).2.2 ∧ hx_ldR T (hx_P E) (hx_to T (8 - hx_P E) 0).2.2 ν) := by
    intro μ1 f1
    have fw : hx_fr (fun κ b i => κ = 12 ∧ b = 0 ∧ i = 0) μ1 (hs_wI μ1 12 0 0 0) := hx_wr (hx_rf _ _) _ (by omega)
    obtain ⟨ν, b1, b2, b3, b4, b5, b6⟩ := hx_begR (d + 3) (μ := hs_wI μ1 12 0 0 0) hl (x := 76) (by omega) (by rw [fw.1 12 0 13 (by omega), f1.1 12 0 13 (by omega), t2])
    have b2' : hx_fr (fun κ b i => κ = 12 ∧ b = 0 ∧ (i = 13 ∨ i = 14 ∨ i = 15 ∨ i = 16)) (hs_wI μ1 12 0 0 0) ν := by
      have := hq_M_begins (d + 4) 76 (hs_wI μ1 12 0 0 0)
      rw [show hc_M_begins (d + 5) 76 (hs_wI μ1 12 0 0 0) = _ from b1, show (hs_wI μ1 12 0 0 0).1 12 0 13 = nI l by rw [fw.1 12 0 13 (by omega), f1.1 12 0 13 (by omega), t2], hx_min, hx_bI] at this
      have e := (Prod.mk.inj (Option.some.inj this)).2
      rw [e]
      exact hx_wr (hx_wr (hx_wr (hx_wr (hx_rf _ _) _ (by omega)) _ (by omega)) _ (by omega)) _ (by omega)
    have fn : hx_fr (fun κ b i => b = 0 ∧ κ = 12 ∧ (i = 0 ∨ i = 13 ∨ i = 14 ∨ i = 15 ∨ i = 16 ∨ i = 21)) μ1 (hs_wI ν 12 0 21 (nI 0)) := hx_wr (hx_tr (hx_mo (fun κ b i z => by omega) fw) (hx_mo (fun κ b i z => by omega) b2')) _ (by omega)
    have hTR : hx_TR (hs_wI ν 12 0 21 (nI 0)) (min l 76) T := ⟨by rw [hx_rd, if_neg (by omega), b5], fun i hi => by rw [fn.1 47 0 i (by omega), f1.1 47 0 i (by omega), t4 i hi]⟩
    obtain ⟨ν2, ok, q1, q2, q3, q4, q5⟩ := hx_lsR d (P := hx_P E) hk (show min l 76 ≤ l by omega) hl (8 - hx_P E) 0 (hs_wI ν 12 0 21 (nI 0)) 1 (by omega) hTR (by rw [hx_rd, if_neg (by omega), b4]; rfl) (Nat.zero_le _) (by rw [fn.1 12 0 3 (by omega), f1.1 12 0 3 (by omega), w1]) (by rw [hx_rd, if_pos ⟨rfl, rfl, rfl⟩]) (fun i hi => absurd hi (by omega))
    refine ⟨ν2, ok, ?_, hx_tr (hx_mo (fun κ b i z => by omega) fn) (hx_mo (fun κ b i z => by unfold hx_yTl at z; omega) q2), ?_, q3, ?_, q4, q5⟩
    · rw [hq_M_town, show hc_M_begins (d + 5) 76 (hs_wI μ1 12 0 0 0) = _ from b1, hx_bI, if_pos (show (0 : Int32) < nI l from nI_lt (a := 0) (by omega) (by omega))]
      exact q1
    · rw [q2.1 12 0 13 (by unfold hx_yTl; omega), hx_rd, if_neg (by omega), b3]
    · rw [q2.1 12 0 15 (by unfold hx_yTl; omega), hx_rd, if_neg (by omega), b5]
  revert e1 g2 bt hO ref
  generalize hx_to T (8 - hx_P E) 0 = R
  obtain ⟨ok, B, N⟩ := R
  intro e1 g2 bt hO ref
  have e1 : he_Town_readLines_21 (d + 4) (nI (hx_P E + 0)) (hs_wI (hs_wI (hs_wI μ 7 0 2 (nI (min l 76))) 8 0 7 0) 8 0 8 0) = some (some (vI (if ok = true ∧ B = l then -1 else nI B)), μb) := e1
  have g2 : ok = true → μb.1 8 0 8 = nI N ∧ hx_ldC T (hx_P E) N μb := g2
  have bt : B ≤ min l 76 ∧ N ≤ 0 + (8 - hx_P E) := bt
  have hO : ok = true → ∀ i, 0 ≤ i → i < N → hx_lO T (hx_lst T i) = true ∧ hx_lst T i ≤ min l 76 := hO
  have eL : hc_Town_readLines (d + 5) μ = some (some (vI (if ok = true ∧ B = l then -1 else nI B)), μb) := by
    rw [hq_Town_readLines, show hc_Text_open (d + 4) 76 μ = _ from eo (d + 2), hx_bV, show (hs_wI μ 7 0 2 (nI (min l 76))).1 8 0 9 = nI (hx_P E + 0) by rw [hx_rd, if_neg (by omega), k1]; rfl]
    exact e1
  have fm : hx_fr (fun κ b i => b = 0 ∧ κ = 7 ∧ i = 1) μb (hs_wI μb 7 0 1 0) := hx_wr (hx_rf _ _) _ (by omega)
  have f1 : hx_fr (fun κ b i => (b = 0 ∧ ((κ = 7 ∧ (i = 1 ∨ i = 2)) ∨ (κ = 8 ∧ (i = 7 ∨ i = 8)))) ∨ hx_xTl (hx_P E) κ b i) μ (hs_wI μb 7 0 1 0) := hx_tr (hx_tr (hx_mo (fun κ b i z => by omega) fa) (hx_mo (fun κ b i z => Or.inr z) g1)) (hx_mo (fun κ b i z => by omega) fm)
  have v71 : (hs_wI μb 7 0 1 0).1 7 0 1 = 0 := by rw [hx_rd, if_pos ⟨rfl, rfl, rfl⟩]
  by_cases z : ok = true ∧ B = l
  rotate_left
  · -- a fault
    obtain ⟨ν, ok', r1, r2, r3, r4, r5, r6, _⟩ := ref (hs_wI μb 7 0 1 0) (hx_mo (fun κ b i z => by unfold hx_xTl at z; omega) f1)
    have ef := hx_flt (d + 4) (μ := ν) hl (x := 76) (by omega) bt.1 r4 r5 ok'
    rw [if_neg (fun y => z (r6.mp y))] at ef
    rw [if_neg z] at eL
    refine hx_Amk (v := -1 - nI B) (μ1 := hs_wI μb 7 0 1 0) (μ2 := ν) (E := E) (t := t) ?_ ?_ (hx_Ite h f1 r2 (fun κ j i z => by unfold hx_xTl at z; rcases z with ⟨_, z | z⟩ | ⟨_, z | z | z | z | z⟩ <;> unfold hx_gX hx_qC hx_cF <;> omega) (fun κ j i z => by unfold hx_gY hx_qR; omega) rfl ?_ ?_ (hx_iT0 ?_ r3))
    · rw [hq_H_town, t1, if_neg (nI_ne0 (by omega) (by omega)), eL, hx_bI, if_neg (hx_nn1 (by omega))]
    · rw [r1, hq_M_town_29, if_pos (show (0 : Int32) = 0 from rfl), show hc_M_faultOf (d + 5) (nI l) 76 (hx_tn ok') ν = _ from ef, hx_bI, if_pos (hx_ng1 B (by omega))]
    · refine hx_ECf r2 (by intro κ i a b; unfold hx_cF at a; omega) ?_
      apply hx_ECn f1 h.1 k0 rfl (fun i => by unfold hx_xTl; omega)
      · rw [f1.1 8 0 9 (by unfold hx_xTl; omega), k1]
      · intro i hi
        rw [f1.1 15 0 i (by unfold hx_xTl; omega), k2 i hi]
      · intro i hi
        rw [f1.1 16 0 i (by unfold hx_xTl; omega), k3 i hi]
      · intro i hi
        rw [f1.1 17 0 i (by unfold hx_xTl; omega), k4 i hi]
      · intro i k hi hk'
        have := k0.2.1 i hi
        rw [f1.1 18 0 _ (by unfold hx_xTl; omega), k5 i k hi hk']
      · rw [f1.1 5 0 0 (by unfold hx_xTl; omega), k6]
      · rw [f1.1 5 0 1 (by unfold hx_xTl; omega), k7]
    · exact hx_ERf r2 (by intro κ i a b; unfold hx_rF at a; omega) (hx_ERf f1 (by intro κ i a b; unfold hx_rF at a; unfold hx_xTl at b; omega) h.2.1)
    · rw [r2.1 7 0 1 (by omega), v71]
  · -- all lines are good
    obtain ⟨g8, gd⟩ := g2 z.1
    have hN : hx_P E + N ≤ 8 := by omega
    have h6 : ∀ i, i < N → (hx_lR T (hx_lst T i)).1 ≤ 6 := fun i hi => hx_lR6 hk (hO z.1 i (Nat.zero_le i) hi).2
    have s1 := hx_SFf f1 (by intro κ i a b; unfold hx_xTl at b; omega) h.2.2.1
    obtain ⟨μd, u1, u2, u3, u4⟩ := hx_twC (d + 4) (t := t) (T := T) hN N 0 (hs_wI μb 7 0 1 0) (by omega) s1 (by rw [f1.1 8 0 9 (by unfold hx_xTl; omega), k1]; rfl) (fun i hi => by rw [fm.1 19 0 _ (by omega), (gd i hi).1])
    have fe : hx_fr (fun κ b i => b = 0 ∧ κ = 3 ∧ i = 4) μd (hs_wI μd 3 0 4 0) := hx_wr (hx_rf _ _) _ (by omega)
    have f2 : hx_fr (fun κ b i => (b = 0 ∧ ((κ = 7 ∧ (i = 1 ∨ i = 2)) ∨ (κ = 8 ∧ (i = 7 ∨ i = 8 ∨ i = 9)) ∨ κ = 24 ∨ κ = 25 ∨ (κ = 6 ∧ i = 3) ∨ (κ = 3 ∧ i = 4))) ∨ hx_xTl (hx_P E) κ b i) μ (hs_wI μd 3 0 4 0) := hx_tr (hx_tr (hx_mo (fun κ b i z => z.elim (fun y => Or.inl (by omega)) Or.inr) f1) (hx_mo (fun κ b i z => Or.inl (by omega)) u2)) (hx_mo (fun κ b i z => Or.inl (by omega)) fe)
    have u5 := hx_SFf fe (by intro κ i a b; omega) u3
    have v9 : (hs_wI μd 3 0 4 0).1 8 0 9 = nI (hx_P E + N) := by rw [fe.1 8 0 9 (by omega), u4]
    have vl : ∀ κ i, 15 ≤ κ → κ ≤ 18 → (hs_wI μd 3 0 4 0).1 κ 0 i = μb.1 κ 0 i := fun κ i a b => by rw [fe.1 κ 0 i (by omega), u2.1 κ 0 i (by omega), fm.1 κ 0 i (by omega)]
    have v34 : (hs_wI μd 3 0 4 0).1 3 0 4 = 0 := by rw [hx_rd, if_pos ⟨rfl, rfl, rfl⟩]
    have v7 : (hs_wI μd 3 0 4 0).1 7 0 1 = 0 := by rw [fe.1 7 0 1 (by omega), u2.1 7 0 1 (by omega), v71]
    rw [if_pos z] at eL
    have eC : hc_H_town (d + 6) μ = some (some (vI (nI N)), hs_wI μd 3 0 4 0) := by
      rw [hq_H_town, t1, if_neg (nI_ne0 (by omega) (by omega)), eL, hx_bI, if_pos rfl, g8]
      exact u1
    revert f2 u5 v9 vl v34 v7 eC
    generalize hs_wI μd 3 0 4 0 = μ1
    intro f2 u5 v9 vl v34 v7 eC
    obtain ⟨ν, ok', r1, r2, r3, r4, r5, r6, r7⟩ := ref μ1 (hx_mo (fun κ b i z => by unfold hx_xTl at z; omega) f2)
    obtain ⟨r8, r9⟩ := r7 z.1
    have ef := hx_flt (d + 4) (μ := ν) hl (x := 76) (by omega) bt.1 r4 r5 ok'
    rw [if_pos (r6.mpr z)] at ef
    have n3 : ν.1 12 0 3 = nI (hx_P E) := by rw [r2.1 12 0 3 (by omega), f2.1 12 0 3 (by unfold hx_xTl; omega), w1]
    have sν : hx_SR ν 45 0 t := hx_SRf r2 (by intro i a b; omega) (hx_SRf f2 (by intro i a b; unfold hx_xTl at b; omega) h.2.2.2.1)
    obtain ⟨ν2, q1, q2, q3, q4⟩ := hx_twM (d + 3) (t := t) (T := T) hN (l := nI l) h6 N 0 ν (by omega) n3 r8 sν r9
    have q2' : hx_fr (fun κ b i => b = 0 ∧ (κ = 45 ∨ ((κ = 41 ∨ κ = 42 ∨ κ = 44) ∧ hx_P E ≤ i) ∨ (κ = 43 ∧ 6 * hx_P E ≤ i))) ν ν2 := hx_mo (fun κ b i z => by omega) q2
    have fz : hx_fr (fun κ b i => b = 0 ∧ κ = 12 ∧ (i = 3 ∨ i = 28)) ν2 (hs_wI (hs_wI ν2 12 0 3 (nI (hx_P E + N))) 12 0 28 0) := hx_wr (hx_wr (hx_rf _ _) _ (by omega)) _ (by omega)
    have eR : hc_M_town (d + 6) μ1 = some (some (vI (nI N)), hs_wI (hs_wI ν2 12 0 3 (nI (hx_P E + N))) 12 0 28 0) := by
      rw [r1, hq_M_town_29, if_pos (show (0 : Int32) = 0 from rfl), show hc_M_faultOf (d + 5) (nI l) 76 (hx_tn ok') ν = _ from ef, hx_bI, if_neg (by decide), show he_M_town_81 (d + 5) (nI l) 0 ν = _ from q1, hq_M_town_81, q2'.1 12 0 21 (by omega), r8, if_neg (nI_nlt (Nat.le_refl _) (by omega)), if_pos (show (0 : Int32) < nI l from nI_lt (a := 0) (by omega) (by omega)), q2'.1 12 0 3 (by omega), n3, nI_add]
    have fy : hx_fr (fun κ b i => b = 0 ∧ ((κ = 12 ∧ (i = 0 ∨ i = 3 ∨ i = 13 ∨ i = 14 ∨ i = 15 ∨ i = 16 ∨ i = 21 ∨ i = 28)) ∨ (48 ≤ κ ∧ κ ≤ 51) ∨ κ = 45 ∨ ((κ = 41 ∨ κ = 42 ∨ κ = 44) ∧ hx_P E ≤ i) ∨ (κ = 43 ∧ 6 * hx_P E ≤ i))) μ1 (hs_wI (hs_wI ν2 12 0 3 (nI (hx_P E + N))) 12 0 28 0) := hx_tr (hx_tr (hx_mo (fun κ b i z => by omega) r2) (hx_mo (fun κ b i z => by omega) q2')) (hx_mo (fun κ b i z => by omega) fz)
    have y3 : (hs_wI (hs_wI ν2 12 0 3 (nI (hx_P E + N))) 12 0 28 0).1 12 0 3 = nI (hx_P E + N) := by rw [hx_rd, if_neg (by omega), hx_rd, if_pos ⟨rfl, rfl, rfl⟩]
    have y28 : (hs_wI (hs_wI ν2 12 0 3 (nI (hx_P E + N))) 12 0 28 0).1 12 0 28 = 0 := by rw [hx_rd, if_pos ⟨rfl, rfl, rfl⟩]
    have y13 : (hs_wI (hs_wI ν2 12 0 3 (nI (hx_P E + N))) 12 0 28 0).1 12 0 13 = 0 := by rw [fz.1 12 0 13 (by omega), q2'.1 12 0 13 (by omega), r3]
    have yl : ∀ κ i, 41 ≤ κ → (hs_wI (hs_wI ν2 12 0 3 (nI (hx_P E + N))) 12 0 28 0).1 κ 0 i = ν2.1 κ 0 i := fun κ i a => fz.1 κ 0 i (by omega)
    have y45 := hx_SRf fz (by intro i a b; omega) q3
    revert eR fy y3 y28 y13 yl y45
    generalize hs_wI (hs_wI ν2 12 0 3 (nI (hx_P E + N))) 12 0 28 0 = μ2
    intro eR fy y3 y28 y13 yl y45
    have ok2 := hx_tEok k0 (T := T) hN h6
    have cy : ∀ κ i, κ ≤ 40 → κ ≠ 12 → μ2.1 κ 0 i = μ1.1 κ 0 i := fun κ i a b => fy.1 κ 0 i (by omega)
    have lo : ∀ κ i, (κ = 41 ∨ κ = 42 ∨ κ = 44) → i < hx_P E → μ2.1 κ 0 i = μ.1 κ 0 i := fun κ i a b => by rw [fy.1 κ 0 i (by omega), f2.1 κ 0 i (by unfold hx_xTl; omega)]
    refine hx_Amk (v := nI N) (μ1 := μ1) (μ2 := μ2) (E := hx_tE E T N) (t := hx_tS t T (hx_P E) N) eC eR (hx_Igr h f2 fy (fun κ j i z => ?_) (fun κ j i z => ?_) (show hx_P E ≤ hx_P E + N by omega) ?_ ?_ ?_ y45 ?_ (hx_iT0 ?_ y13) ?_ y28)
    · unfold hx_xTl at z
      rcases z with ⟨_, z | z | z | z | z | z⟩ | ⟨_, z | z | z | z | z⟩ <;> unfold hx_hX hx_gX hx_cF hx_qC <;> omega
    · rcases z with ⟨_, z | z | z | z | z⟩ <;> unfold hx_hY hx_gY hx_rF hx_qR <;> omega
    · refine hx_ECf (X := fun κ b i => b = 0 ∧ (κ = 12 ∨ 41 ≤ κ)) (hx_mo (fun κ b i z => by omega) fy) (by intro κ i a b; unfold hx_cF at a; omega) ?_
      apply hx_ECn f2 h.1 ok2 rfl (fun i => by unfold hx_xTl; omega)
      · exact v9
      · intro i hi
        have hi' : i < hx_P E + N := hi
        show _ = if i < hx_P E then hx_Pt E i else hx_lP T (hx_lK T (hx_lst T (i - hx_P E)))
        by_cases y : i < hx_P E
        · rw [if_pos y, f2.1 15 0 i (by unfold hx_xTl; omega), k2 i y]
        · have := (gd (i - hx_P E) (by omega)).2.1
          rw [show hx_P E + (i - hx_P E) = i by omega] at this
          rw [if_neg y, vl 15 i (by omega) (by omega), this]
      · intro i hi
        have hi' : i < hx_P E + N := hi
        show _ = if i < hx_P E then hx_Il E i else 0
        by_cases y : i < hx_P E
        · rw [if_pos y, f2.1 16 0 i (by unfold hx_xTl; omega), k3 i y]
        · have := (gd (i - hx_P E) (by omega)).2.2.1
          rw [show hx_P E + (i - hx_P E) = i by omega] at this
          rw [if_neg y, vl 16 i (by omega) (by omega), this]
      · intro i hi
        have hi' : i < hx_P E + N := hi
        show _ = nI (if i < hx_P E then hx_Hl E i else (hx_lR T (hx_lst T (i - hx_P E))).1)
        by_cases y : i < hx_P E
        · rw [if_pos y, f2.1 17 0 i (by unfold hx_xTl; omega), k4 i y]
        · have := (gd (i - hx_P E) (by omega)).2.2.2.1
          rw [show hx_P E + (i - hx_P E) = i by omega] at this
          rw [if_neg y, vl 17 i (by omega) (by omega), this]
      · intro i k hi hk'
        have hi' : i < hx_P E + N := hi
        have hk2 : k < if i < hx_P E then hx_Hl E i else (hx_lR T (hx_lst T (i - hx_P E))).1 := hk'
        show _ = if i < hx_P E then hx_Hb E i k else hx_cv T (hx_lS T (hx_lK T (hx_lst T (i - hx_P E))) + 2 * k)
        by_cases y : i < hx_P E
        · rw [if_pos y] at hk2 ⊢
          have := k0.2.1 i y
          rw [f2.1 18 0 _ (by unfold hx_xTl; omega), k5 i k y hk2]
        · rw [if_neg y] at hk2 ⊢
          have := (gd (i - hx_P E) (by omega)).2.2.2.2 k hk2
          rw [show hx_P E + (i - hx_P E) = i by omega] at this
          rw [vl 18 _ (by omega) (by omega), this]
      · rw [f2.1 5 0 0 (by unfold hx_xTl; omega), k6]
        rfl
      · rw [f2.1 5 0 1 (by unfold hx_xTl; omega), k7]
        rfl
    · have fq : hx_fr (fun κ b i => ¬ (κ = 12 ∧ (i = 8 ∨ i = 9 ∨ i = 24)) ∧ κ ≠ 52) μ μ2 := hx_tr (hx_mo (fun κ b i z => by unfold hx_xTl at z; omega) f2) (hx_mo (fun κ b i z => by omega) fy)
      apply hx_ERn fq h.2.1 ok2 rfl (fun i => by omega)
      · exact y3
      · intro i hi
        have hi' : i < hx_P E + N := hi
        show _ = if i < hx_P E then hx_Pt E i else hx_lP T (hx_lK T (hx_lst T (i - hx_P E)))
        by_cases y : i < hx_P E
        · rw [if_pos y, lo 41 i (by omega) y, w2 i y]
        · have := (q4 (i - hx_P E) (by omega) (by omega)).1
          rw [show hx_P E + (i - hx_P E) = i by omega] at this
          rw [if_neg y, yl 41 i (by omega), this]
      · intro i hi
        have hi' : i < hx_P E + N := hi
        show _ = if i < hx_P E then hx_Il E i else 0
        by_cases y : i < hx_P E
        · rw [if_pos y, lo 42 i (by omega) y, w3 i y]
        · have := (q4 (i - hx_P E) (by omega) (by omega)).2.1
          rw [show hx_P E + (i - hx_P E) = i by omega] at this
          rw [if_neg y, yl 42 i (by omega), this]
      · intro i hi
        have hi' : i < hx_P E + N := hi
        show _ = nI (if i < hx_P E then hx_Hl E i else (hx_lR T (hx_lst T (i - hx_P E))).1)
        by_cases y : i < hx_P E
        · rw [if_pos y, lo 44 i (by omega) y, w4 i y]
        · have := (q4 (i - hx_P E) (by omega) (by omega)).2.2.1
          rw [show hx_P E + (i - hx_P E) = i by omega] at this
          rw [if_neg y, yl 44 i (by omega), this]
      · intro i k hi hk'
        have hi' : i < hx_P E + N := hi
        have hk2 : k < if i < hx_P E then hx_Hl E i else (hx_lR T (hx_lst T (i - hx_P E))).1 := hk'
        show _ = if i < hx_P E then hx_Hb E i k else hx_cv T (hx_lS T (hx_lK T (hx_lst T (i - hx_P E))) + 2 * k)
        by_cases y : i < hx_P E
        · rw [if_pos y] at hk2 ⊢
          have := k0.2.1 i y
          rw [fy.1 43 0 _ (by omega), f2.1 43 0 _ (by unfold hx_xTl; omega), w5 i k y hk2]
        · rw [if_neg y] at hk2 ⊢
          have := (q4 (i - hx_P E) (by omega) (by omega)).2.2.2 k hk2
          rw [show hx_P E + (i - hx_P E) = i by omega] at this
          rw [yl 43 _ (by omega), this]
      · rw [fq.1 12 0 8 (by omega), w6]
        rfl
      · rw [fq.1 12 0 9 (by omega), w7]
        rfl
    · exact hx_SFf fy (by intro κ i a b; omega) u5
    · exact hx_twm (hx_tSt h.2.2.2.2.1 N hN (fun i hi => (hO z.1 i (Nat.zero_le i) hi).1)) (by omega)
    · rw [cy 7 1 (by omega) (by omega), v7]
    · rw [cy 3 4 (by omega) (by omega), v34]
