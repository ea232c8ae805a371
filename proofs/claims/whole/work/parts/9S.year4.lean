/-! ===== E: year, the call ===== -/
set_option maxHeartbeats 4000000 in
theorem hx_year (d : Nat) {n : Nat} (hn : n ≤ 512) {E : hx_Env} {t : hx_St} {μ : hs_M} (h : hx_I n E t μ) : hx_A n μ (hc_H_year (d + 7)) (hc_M_year (d + 7)) := by
  have h8 := h.1.1.1
  obtain ⟨l, T, hl, hk, t1, t2, t3, t4, eo⟩ := hx_open h.2.2.2.2.2.1 (x := 60) (by omega)
  have fa : hx_fr (fun κ b i => b = 0 ∧ κ = 7 ∧ i = 2) μ (hs_wI μ 7 0 2 (nI (min l 60))) := hx_wr (hx_rf _ _) _ (by omega)
  have ha : hx_I n E t (hs_wI μ 7 0 2 (nI (min l 60))) := hx_Ib (hx_Iw (hx_Ia h) fa (fun κ j i z => Or.inl (Or.inl (by unfold hx_qC; omega))) (Nat.le_refl n)) (hx_iR2 (Y := fun _ _ _ => False) h.2.2.2.2.2.2.1 fa (hx_rf _ _) (fun κ i z => ⟨by omega, fun y => y⟩))
  have hTC : hx_TC (hs_wI μ 7 0 2 (nI (min l 60))) (min l 60) T := ⟨by rw [hx_rd, if_pos ⟨rfl, rfl, rfl⟩], fun i hi => by rw [fa.1 13 0 i (by omega), t3 i hi]⟩
  have eo' : hc_Text_open (d + 6) 60 μ = some (none, hs_wI μ 7 0 2 (nI (min l 60))) := eo (d + 4)
  have v1 : (hs_wI μ 7 0 2 (nI (min l 60))).1 7 0 1 = nI l := by rw [fa.1 7 0 1 (by omega), t1]
  have v2 : (hs_wI μ 7 0 2 (nI (min l 60))).1 7 0 2 = nI (min l 60) := hTC.1
  have ef := hx_yfC (d + 4) hk (show min l 60 ≤ l by omega) hl hTC v1 (min l 60) 0 0 (by omega) (by omega)
  have fb := hx_yfb (T := T) (min l 60) 0 0
  have ref : ∀ μ1 : hs_M, hx_fr (fun κ b i => κ < 40 ∧ κ ≠ 12) μ μ1 → ∃ ν, hc_M_year (d + 7) μ1 = (if (hx_yf T (min l 60) 0 0).2 = true ∧ (hx_yf T (min l 60) 0 0).1 = l then he_M_year_68 (d + 6) (nI 0) (hs_wI ν 12 0 27 0) else some (some (vI (-1 - nI (hx_yf T (min l 60) 0 0).1)), ν)) ∧ hx_fr (fun κ b i => (κ = 12 ∧ (i = 0 ∨ i = 13 ∨ i = 14 ∨ i = 15 ∨ i = 16 ∨ i = 31)) ∨ κ = 56) μ1 ν ∧ ν.1 12 0 13 = 0 ∧ (l = 0 → ν.1 12 0 31 = nI 0) ∧ (0 < l → (hx_yf T (min l 60) 0 0).2 = true → ν.1 12 0 31 = nI (hx_ym T (min l 60) 0 0).length ∧ ∀ i v, (hx_ym T (min l 60) 0 0)[i]? = some v → ν.1 56 0 i = v) := by
    intro μ1 f1
    have fw : hx_fr (fun κ b i => κ = 12 ∧ b = 0 ∧ i = 0) μ1 (hs_wI μ1 12 0 0 0) := hx_wr (hx_rf _ _) _ (by omega)
    obtain ⟨ν, b1, b2, b3, b4, b5, b6⟩ := hx_begR (d + 4) (μ := hs_wI μ1 12 0 0 0) hl (x := 60) (by omega) (by rw [fw.1 12 0 13 (by omega), f1.1 12 0 13 (by omega), t2])
    have fn : hx_fr (fun κ b i => (κ = 12 ∧ (i = 0 ∨ i = 13 ∨ i = 14 ∨ i = 15 ∨ i = 16 ∨ i = 31)) ∨ κ = 56) μ1 (hs_wI ν 12 0 31 (nI 0)) := hx_wr (hx_tr (hx_mo (fun κ b i z => by omega) fw) (hx_mo (fun κ b i z => by omega) b2)) _ (by omega)
    have hTR : hx_TR (hs_wI ν 12 0 31 (nI 0)) (min l 60) T := ⟨by rw [hx_rd, if_neg (by omega), b5], fun i hi => by rw [fn.1 47 0 i (by omega), f1.1 47 0 i (by omega), t4 i hi]⟩
    have b1 : hc_M_begins (d + 6) 60 (hs_wI μ1 12 0 0 0) = some (some (vI (nI l)), ν) := b1
    have fin : ∀ ν2 : hs_M, ν2.1 12 0 14 = nI (hx_yf T (min l 60) 0 0).1 → ν2.1 12 0 15 = nI (min l 60) → he_M_year_27 (d + 6) (nI l) 0 ν2 = (if (hx_yf T (min l 60) 0 0).2 = true ∧ (hx_yf T (min l 60) 0 0).1 = l then he_M_year_68 (d + 6) (nI 0) (hs_wI ν2 12 0 27 0) else some (some (vI (-1 - nI (hx_yf T (min l 60) 0 0).1)), ν2)) := by
      intro ν2 p14 p15
      have e := hx_flt (d + 5) (μ := ν2) hl (x := 60) (by omega) (by omega) p14 p15 true
      have e : hc_M_faultOf (d + 6) (nI l) 60 1 ν2 = _ := e
      rw [hq_M_year_27, if_pos (show (0 : Int32) = 0 from rfl), e, hx_bI]
      by_cases z : (hx_yf T (min l 60) 0 0).2 = true ∧ (hx_yf T (min l 60) 0 0).1 = l
      · rw [if_pos z, if_pos (show true = true ∧ (hx_yf T (min l 60) 0 0).1 = l from ⟨rfl, z.2⟩), if_neg (show ¬ (0 : Int32) < 0 by decide)]
        rfl
      · have z' : ¬ (true = true ∧ (hx_yf T (min l 60) 0 0).1 = l) := fun y => by
          by_cases o : (hx_yf T (min l 60) 0 0).2 = true
          · exact z ⟨o, y.2⟩
          · have := fb.2.2 o
            omega
        rw [if_neg z, if_neg z', if_pos (hx_ng1 _ (by omega))]
    by_cases l0 : l = 0
    · refine ⟨hs_wI ν 12 0 31 (nI 0), ?_, fn, by rw [hx_rd, if_neg (by omega), b3], fun _ => by rw [hx_rd, if_pos ⟨rfl, rfl, rfl⟩], fun z => absurd z (by omega)⟩
      rw [hq_M_year, b1, hx_bI, if_neg (show ¬ (0 : Int32) < nI l from nI_nlt (a := 0) (by omega) (by omega))]
      refine fin (hs_wI ν 12 0 31 (nI 0)) ?_ hTR.1
      rw [hx_rd, if_neg (by omega), b4]
      exact congrArg nI (by omega)
    · obtain ⟨ν2, q1, q2, q3, q4, q5⟩ := hx_yoR (d + 4) (l := l) hk (by omega) (min l 60) 0 0 (hs_wI ν 12 0 31 (nI 0)) (by omega) (by omega) (by omega) hTR (by rw [hx_rd, if_neg (by omega), b4]) (by rw [hx_rd, if_pos ⟨rfl, rfl, rfl⟩])
      rw [Nat.sub_zero] at q3 q4
      refine ⟨ν2, ?_, hx_tr fn (hx_mo (fun κ b i z => by unfold hx_yY at z; omega) q2), ?_, fun z => absurd z l0, fun _ o => ⟨?_, fun i v hv => ?_⟩⟩
      · rw [hq_M_year, b1, hx_bI, if_pos (show (0 : Int32) < nI l from nI_lt (a := 0) (by omega) (by omega)), show he_M_year_27 (d + 6) (nI l) 1 (hs_wI ν 12 0 31 0) = _ from q1]
        exact fin ν2 q3 (by rw [q2.1 12 0 15 (by unfold hx_yY; omega), hTR.1])
      · rw [q2.1 12 0 13 (by unfold hx_yY; omega), hx_rd, if_neg (by omega), b3]
      · rw [(q4 o).1, Nat.zero_add]
      · have := (q4 o).2 i v hv
        rw [Nat.zero_add] at this
        exact this
  have eY : hc_H_year (d + 7) μ = (if (hx_yf T (min l 60) 0 0).2 = true ∧ (hx_yf T (min l 60) 0 0).1 = l then hs_bI (hc_H_passYear (d + 6) (hs_wI μ 7 0 2 (nI (min l 60)))) (fun r3 μ3 => some (some (vI r3), hs_wI μ3 7 0 1 0)) else some (some (vI (-1 - nI (hx_yf T (min l 60) 0 0).1)), hs_wI (hs_wI μ 7 0 2 (nI (min l 60))) 7 0 1 0)) := by
    rw [hq_H_year, eo', hx_bV, hq_H_yearFault, show he_H_yearFault_4 (d + 5) 0 0 (hs_wI μ 7 0 2 (nI (min l 60))) = _ from ef, hx_bI]
    by_cases z : (hx_yf T (min l 60) 0 0).2 = true ∧ (hx_yf T (min l 60) 0 0).1 = l
    · rw [if_pos z, if_pos z, if_pos rfl]
    · rw [if_neg z, if_neg z, if_neg (hx_nn1 (by omega))]
  by_cases z : (hx_yf T (min l 60) 0 0).2 = true ∧ (hx_yf T (min l 60) 0 0).1 = l
  rotate_left
  · -- a fault
    rw [if_neg z] at eY
    have f1 : hx_fr (fun κ b i => b = 0 ∧ κ = 7 ∧ (i = 1 ∨ i = 2)) μ (hs_wI (hs_wI μ 7 0 2 (nI (min l 60))) 7 0 1 0) := hx_wr (hx_mo (fun κ b i z => by omega) fa) _ (by omega)
    obtain ⟨ν, r1, r2, r3, _⟩ := ref (hs_wI (hs_wI μ 7 0 2 (nI (min l 60))) 7 0 1 0) (hx_mo (fun κ b i z => by omega) f1)
    rw [if_neg z] at r1
    refine hx_Amk (v := -1 - nI (hx_yf T (min l 60) 0 0).1) (E := E) (t := t) eY r1 (hx_Ite h f1 r2 (fun κ j i z => by unfold hx_gX hx_qC; omega) (fun κ j i z => by unfold hx_gY hx_qR; omega) rfl ?_ ?_ (hx_iT0 ?_ r3))
    · exact hx_ECf r2 (by intro κ i a b; unfold hx_cF at a; omega) (hx_ECf f1 (by intro κ i a b; unfold hx_cF at a; omega) h.1)
    · exact hx_ERf r2 (by intro κ i a b; unfold hx_rF at a; omega) (hx_ERf f1 (by intro κ i a b; unfold hx_rF at a; omega) h.2.1)
    · rw [r2.1 7 0 1 (by omega), hx_rd, if_pos ⟨rfl, rfl, rfl⟩]
  rw [if_pos z] at eY
  have lm : l ≤ 60 := by
    have := fb.2.1 z.1
    omega
  -- no week goes by
  have stat : ∀ (b : Bool) (N : Nat), N ≤ 100 → b = decide (0 < N) → hc_H_passYear (d + 6) (hs_wI μ 7 0 2 (nI (min l 60))) = he_H_passYear_135 (d + 5) 0 (hx_tn b) (hs_wI μ 7 0 2 (nI (min l 60))) → (∀ ν : hs_M, ν.1 12 0 3 = nI (hx_P E) → (l = 0 → ν.1 12 0 31 = nI 0) → (0 < l → (hx_yf T (min l 60) 0 0).2 = true → ν.1 12 0 31 = nI (hx_ym T (min l 60) 0 0).length ∧ ∀ i v, (hx_ym T (min l 60) 0 0)[i]? = some v → ν.1 56 0 i = v) → ν.1 12 0 31 = nI N ∧ he_M_year_68 (d + 6) (nI 0) (hs_wI ν 12 0 27 0) = he_M_year_123 (d + 6) (nI 0) (hs_wI ν 12 0 27 0)) → hx_A n μ (hc_H_year (d + 7)) (hc_M_year (d + 7)) := by
    intro b N hN hb eP eR
    obtain ⟨μ3, c1, c2, c3⟩ := hx_y135 (d + 2) ha.2.2.1 0 (hx_tn b)
    have fm : hx_fr (fun κ b i => b = 0 ∧ κ = 7 ∧ i = 1) μ3 (hs_wI μ3 7 0 1 0) := hx_wr (hx_rf _ _) _ (by omega)
    have f1 : hx_fr (fun κ b i => (κ = 7 ∧ (i = 1 ∨ i = 2)) ∨ hx_xR κ b i) μ (hs_wI μ3 7 0 1 0) := hx_tr (hx_tr (hx_mo (fun κ b i z => by omega) fa) (hx_mo (fun κ b i z => Or.inr z) c2)) (hx_mo (fun κ b i z => by omega) fm)
    obtain ⟨ν, r1, r2, r3, r4, r5⟩ := ref (hs_wI μ3 7 0 1 0) (hx_mo (fun κ b i z => by unfold hx_xR at z; omega) f1)
    rw [if_pos z] at r1
    obtain ⟨n31, e68⟩ := eR ν (by rw [r2.1 12 0 3 (by omega), f1.1 12 0 3 (by unfold hx_xR; omega), h.2.1.2.1]) r4 r5
    have fz : hx_fr (fun κ b i => κ = 12 ∧ i = 27) ν (hs_wI ν 12 0 27 0) := hx_wr (hx_rf _ _) _ (by omega)
    have sz : hx_SR (hs_wI ν 12 0 27 0) 45 0 t := hx_SRf fz (by intro i a b; omega) (hx_SRf r2 (by intro i a b; omega) (hx_SRf f1 (by intro i a b; unfold hx_xR at b; omega) h.2.2.2.1))
    obtain ⟨μ2, q1, q2, q3⟩ := hx_y123 (d + 4) sz (c := 0) (n := N) (by omega) hN (by rw [hx_rd, if_neg (by omega), n31])
    rw [← hb] at q3
    have fy : hx_fr (fun κ b i => (κ = 12 ∧ (i = 0 ∨ i = 13 ∨ i = 14 ∨ i = 15 ∨ i = 16 ∨ i = 31 ∨ i = 27)) ∨ κ = 56 ∨ hx_yR κ b i) (hs_wI μ3 7 0 1 0) μ2 := hx_tr (hx_tr (hx_mo (fun κ b i z => by omega) r2) (hx_mo (fun κ b i z => by omega) fz)) (hx_mo (fun κ b i z => Or.inr (Or.inr z)) q2)
    refine hx_Amk (v := 0) (μ1 := hs_wI μ3 7 0 1 0) (μ2 := μ2) (E := E) (t := t) ?_ ?_ ?_
    · rw [eY, eP, c1, hx_bI]
    · rw [r1, e68]
      exact q1
    · obtain ⟨a1, a2, a3, a4, a5, _, _, a8, a9, a10, a11⟩ := hx_Ix h f1 fy
      refine ⟨a1 ?_, a2 ?_, a3 ?_, a4 ?_, a5, hx_iT0 ?_ ?_, ⟨_, hx_rwCf fy ?_ (hx_rwCf fm ?_ c3), q3⟩, a8 ?_, a9 ?_, a10 ?_, a11 ?_⟩
      rotate_left 4
      · rw [fy.1 7 0 1 (by unfold hx_yR; omega), hx_rd, if_pos ⟨rfl, rfl, rfl⟩]
      · rw [q2.1 12 0 13 (by unfold hx_yR; omega), fz.1 12 0 13 (by omega), r3]
      all_goals intros
      all_goals simp only [hx_cF, hx_rF, hx_fP, hx_fK, hx_fW, hx_fD, hx_xR, hx_yR] at *
      all_goals omega
  by_cases l0 : l = 0
  · refine stat false 0 (by omega) rfl ?_ (fun ν _ e _ => ⟨e l0, ?_⟩)
    · rw [hq_H_passYear, v2, show min l 60 = 0 by omega, if_pos nI_0, hq_H_passYear_34, if_neg (by decide)]
      rfl
    · have fz : hx_fr (fun κ b i => κ = 12 ∧ i = 27) ν (hs_wI ν 12 0 27 0) := hx_wr (hx_rf _ _) _ (by omega)
      rw [hq_M_year_68, fz.1 12 0 31 (by omega), e l0, if_neg (by decide)]
  have l1 : min l 60 = l := by omega
  have bL := hx_ymL (T := T) (min l 60) 0 0
  obtain ⟨k', q', b1, b2, b3, b4, b5⟩ := hx_ywC (d + 4) hk hTC (nI 0) (min l 60) 0 0 0 (by omega) (by omega) z.1
  have b5 : (k' = min l 60 ∧ hx_ym T (min l 60) 0 0 = [nI q']) ∨ (k' < min l 60 ∧ hx_ym T (min l 60) 0 0 = nI q' :: hx_ym T (min l 60 - k' - 1) (k' + 1) 0 ∧ (hx_yf T (min l 60 - k' - 1) (k' + 1) 0).2 = true) := b5
  have eL : ∃ L', hx_ym T (min l 60) 0 0 = nI q' :: L' := by
    rcases b5 with ⟨_, e⟩ | ⟨_, e, _⟩
    · exact ⟨_, e⟩
    · exact ⟨_, e⟩
  have eP : hc_H_passYear (d + 6) (hs_wI μ 7 0 2 (nI (min l 60))) = he_H_passYear_83 (d + 5) (nI 0) (nI q') 0 (nI (min l 60 + 1)) (nI k') (hs_wI μ 7 0 2 (nI (min l 60))) := by
    rw [hq_H_passYear, v2, if_neg (nI_ne0 (by omega) (by omega)), nI_1]
    exact b4
  rw [hq_H_passYear_83, hq_Town_everyone, hx_bI, ha.1.2.1] at eP
  by_cases y : nI q' < ((1 : Int32) <<< (nI (hx_P E) &&& 31))
  rotate_left
  · -- the first week has somebody who isn't there
    rw [if_neg (fun w => y ((hx_yev _ h8 q' b3).mp w)), nI_1, (hx_yend (d + 5) (nI 0) (nI q') (m := min l 60) (k := k' + 1) (by omega) _).1 (by omega)] at eP
    refine stat true _ (show (hx_ym T (min l 60) 0 0).length ≤ 100 by omega) (decide_eq_true (by omega)).symm eP (fun ν p3 _ e => ⟨(e (by omega) z.1).1, ?_⟩)
    obtain ⟨L', eL⟩ := eL
    obtain ⟨e31, e56⟩ := e (by omega) z.1
    have v56 : ν.1 56 0 0 = nI q' := e56 0 _ (by rw [eL]; rfl)
    have fz : hx_fr (fun κ b i => κ = 12 ∧ i = 27) ν (hs_wI ν 12 0 27 0) := hx_wr (hx_rf _ _) _ (by omega)
    rw [hq_M_year_68, fz.1 12 0 31 (by omega), e31, if_pos (nI_lt (by omega) (by omega)), if_pos (hx_in (by omega) (by omega)), nI_clamp (by omega), fz.1 56 0 0 (by omega), v56, fz.1 12 0 3 (by omega), p3, if_neg y]
  -- weeks go by
  obtain ⟨μr, p1, p2, hE, hS, K⟩ := hx_pastT (d + 2) (d + 5) ha
  obtain ⟨μw, w1, w2, w3⟩ := hx_pwk d hE (W := 100 * n) (by omega) h.2.2.2.2.1 hS (nI q') 0
  rw [hx_saZ] at w1 w3
  rw [if_pos ((hx_yev _ h8 q' b3).mpr y), if_pos nI_0, p1, hx_bV, hq_H_passYear_117, w1, hx_bI, nI_1, nI_1, Nat.zero_add] at eP
  have tw1 := hx_stw h8 (W := 100 * n) (by omega) h.2.2.2.2.1 (bt (nI q'))
  have main : ∃ L' μe, hx_ym T (min l 60) 0 0 = nI q' :: L' ∧ he_H_passYear_34 (d + 5) (nI 1) 0 0 (nI (min l 60 + 1)) (nI (k' + 1)) μw = he_H_passYear_135 (d + 5) (nI (hx_yr E L' 1 (hx_stp E t (bt (nI q')))).1) (hx_tn (hx_yr E L' 1 (hx_stp E t (bt (nI q')))).2.1) μe ∧ hx_fr (hx_xS 0) μw μe ∧ hx_SF μe 0 (hx_yr E L' 1 (hx_stp E t (bt (nI q')))).2.2 := by
    rcases b5 with ⟨e1, e2⟩ | ⟨e1, e2, e3⟩
    · refine ⟨[], μw, e2, ?_, hx_rf _ _, w3⟩
      rw [e1, (hx_yend (d + 5) (nI 1) 0 (m := min l 60) (k := min l 60 + 1) (by omega) μw).2 rfl]
      rfl
    · have hTr := hx_TCf w2 (fun i => by unfold hx_xS; omega) (hx_TCf p2 (fun i => by unfold hx_pX; omega) hTC)
      obtain ⟨μe, r1, r2, r3⟩ := hx_ypC d (by omega) hk h8 (min l 60) (k' + 1) 1 (100 * n + 1) (hx_stp E t (bt (nI q'))) μw (by omega) (by omega) (by omega) (by omega) hTr (hx_ECS w2 hE) w3 (by rw [show min l 60 - (k' + 1) = min l 60 - k' - 1 by omega]; exact e3) (by omega) tw1
      rw [show min l 60 - (k' + 1) = min l 60 - k' - 1 by omega] at r1 r3
      exact ⟨_, μe, e2, r1, r2, r3⟩
  obtain ⟨L', μe, eL', m1, m2, m3⟩ := main
  have lL : L'.length ≤ 60 := by
    have := bL.2
    rw [eL', List.length_cons] at this
    omega
  obtain ⟨yb1, yb2, yb3⟩ := hx_yrb (E := E) L' 1 (hx_stp E t (bt (nI q')))
  have ytw := hx_yrt h8 L' 1 (100 * n + 1) (hx_stp E t (bt (nI q'))) (by omega) tw1
  obtain ⟨μ3, c1, c2, c3⟩ := hx_y135 (d + 2) m3 (nI (hx_yr E L' 1 (hx_stp E t (bt (nI q')))).1) (hx_tn (hx_yr E L' 1 (hx_stp E t (bt (nI q')))).2.1)
  have s3 := hx_SFf c2 (by intro κ i a b; unfold hx_xR at b; omega) m3
  have fm : hx_fr (fun κ b i => b = 0 ∧ κ = 7 ∧ i = 1) μ3 (hs_wI μ3 7 0 1 0) := hx_wr (hx_rf _ _) _ (by omega)
  have fX : hx_fr (fun κ b i => hx_vX κ b i ∨ (κ = 7 ∧ i = 1)) μr (hs_wI μ3 7 0 1 0) := hx_tr (hx_tr (hx_mo (fun κ b i z => Or.inl (by unfold hx_xS at z; unfold hx_vX hx_qX hx_qC; omega)) (hx_tr w2 m2)) (hx_mo (fun κ b i z => Or.inl (by unfold hx_xR at z; unfold hx_vX hx_qX; omega)) c2)) (hx_mo (fun κ b i z => Or.inr z.2) fm)
  have fall : hx_fr (fun κ b i => κ < 40 ∧ κ ≠ 12) μ (hs_wI μ3 7 0 1 0) := hx_tr (hx_mo (fun κ b i z => by omega) fa) (hx_tr (hx_mo (fun κ b i z => by unfold hx_pX at z; omega) p2) (hx_mo (fun κ b i z => by unfold hx_vX hx_qX hx_qC at z; omega) fX))
  obtain ⟨ν, r1, r2, r3, r4, r5⟩ := ref (hs_wI μ3 7 0 1 0) fall
  rw [if_pos z] at r1
  obtain ⟨e31, e56⟩ := r5 (by omega) z.1
  rw [eL'] at e31 e56
  rw [List.length_cons] at e31
  have v56 : ν.1 56 0 0 = nI q' := e56 0 _ rfl
  have fz : hx_fr (fun κ b i => κ = 12 ∧ i = 27) ν (hs_wI ν 12 0 27 0) := hx_wr (hx_rf _ _) _ (by omega)
  obtain ⟨μp, j1, j2, j3, j4, mk⟩ := K (hs_wI μ3 7 0 1 0) (hs_wI ν 12 0 27 0) fX (hx_tr (hx_mo (fun κ b i z => by unfold hx_qR; omega) r2) (hx_mo (fun κ b i z => by unfold hx_qR; omega) fz))
  have P3 : (hs_wI ν 12 0 27 0).1 12 0 3 = nI (hx_P E) := by rw [fz.1 12 0 3 (by omega), r2.1 12 0 3 (by omega), fall.1 12 0 3 (by omega), h.2.1.2.1]
  obtain ⟨μg, g1, g2, g3, _⟩ := hx_goes (d + 3) (κ := 45) (Or.inl rfl) j3 (W := 100 * n) (by omega) h.2.2.2.2.1 j4 (nI q')
  have q56 : ∀ i, μg.1 56 0 i = ν.1 56 0 i := fun i => by rw [g2.1 56 0 i (by unfold hx_xG; omega), j2.1 56 0 i (by unfold hx_pY; omega), fz.1 56 0 i (by omega)]
  have q31 : μg.1 12 0 31 = nI (L'.length + 1) := by rw [g2.1 12 0 31 (by unfold hx_xG; omega), j2.1 12 0 31 (by unfold hx_pY; omega), fz.1 12 0 31 (by omega), e31]
  obtain ⟨μh, h1, h2, h3⟩ := hx_ypM (d + 3) h8 (n := L'.length + 1) (by omega) L' 1 (100 * n + 1) (hx_stp E t (bt (nI q'))) μg (by omega) (by omega) (fun i v hv => by rw [q56, Nat.add_comm]; exact e56 (i + 1) v hv) q31 (hx_ERf g2 (by intro κ i a b; unfold hx_rF at a; unfold hx_xG at b; omega) j3) g3 (by omega) tw1
  obtain ⟨μ2, u1, u2, u3⟩ := hx_y123 (d + 4) h3 (c := (hx_yr E L' 1 (hx_stp E t (bt (nI q')))).1) (n := L'.length + 1) (by omega) (by omega) (by rw [h2.1 12 0 31 (by omega), q31])
  rw [show L'.length + 1 = 1 + L'.length by omega, ← yb1] at u3
  have fY : hx_fr hx_vY μp μ2 := hx_tr (hx_tr (hx_mo (fun κ b i z => by unfold hx_xG at z; unfold hx_vY hx_qY hx_qR; omega) g2) (hx_mo (fun κ b i z => by unfold hx_vY hx_qY hx_qR; omega) h2)) (hx_mo (fun κ b i z => by unfold hx_yR at z; unfold hx_vY hx_qY; omega) u2)
  have fV : hx_fr (fun κ b i => κ = 12 ∨ 40 ≤ κ) (hs_wI μ3 7 0 1 0) μ2 := hx_tr (hx_tr (hx_mo (fun κ b i z => by omega) r2) (hx_mo (fun κ b i z => by omega) fz)) (hx_tr (hx_mo (fun κ b i z => by unfold hx_pY at z; omega) j2) (hx_mo (fun κ b i z => by unfold hx_vY hx_qY hx_qR at z; omega) fY))
  refine hx_Amk (v := nI (hx_yr E L' 1 (hx_stp E t (bt (nI q')))).1) (μ1 := hs_wI μ3 7 0 1 0) (μ2 := μ2) (E := E) (t := (hx_yr E L' 1 (hx_stp E t (bt (nI q')))).2.2) ?_ ?_ (mk μ2 _ fY ?_ ?_ ?_ ⟨_, hx_rwCf fV (by intro κ i a b; omega) (hx_rwCf fm (by intro κ i a b; omega) c3), u3⟩ (hx_iT0 ?_ ?_))
  · rw [eY, eP, m1, c1, hx_bI]
  · rw [r1, hq_M_year_68, fz.1 12 0 31 (by omega), e31, if_pos (nI_lt (by omega) (by omega)), if_pos (hx_in (by omega) (by omega)), nI_clamp (by omega), fz.1 56 0 0 (by omega), v56, P3, if_pos y, if_pos nI_0, j1, hx_bV, hq_M_year_102, if_pos (hx_in (by omega) (by omega)), nI_clamp (by omega), show μp.1 56 0 0 = nI q' by rw [j2.1 56 0 0 (by unfold hx_pY; omega), fz.1 56 0 0 (by omega), v56], g1, hx_bV, nI_1, h1]
    exact u1
  · exact hx_SFf fV (by intro κ i a b; omega) (hx_SFf fm (by intro κ i a b; omega) s3)
  · exact hx_SRf u2 (by intro i a b; unfold hx_yR at b; omega) h3
  · exact hx_twm ytw (by omega)
  · rw [fV.1 7 0 1 (by omega), hx_rd, if_pos ⟨rfl, rfl, rfl⟩]
  · rw [u2.1 12 0 13 (by unfold hx_yR; omega), h2.1 12 0 13 (by omega), g2.1 12 0 13 (by unfold hx_xG; omega), j2.1 12 0 13 (by unfold hx_pY; omega), fz.1 12 0 13 (by omega), r3]
