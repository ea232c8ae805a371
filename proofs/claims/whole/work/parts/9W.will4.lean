/-! ===== E: will, the call ===== -/
def hx_uV (E : hx_Env) (V : (Nat → Int32) → Int32) : hx_Env := (hx_P E, hx_Pt E, hx_Il E, hx_Hl E, hx_Hb E, hx_G E, hx_O E, V)
theorem hx_ECv {X : Nat → Nat → Nat → Prop} {μ μ' : hs_M} (f : hx_fr X μ μ') (hX : ∀ κ i, ((κ = 5 ∧ i < 2) ∨ (κ = 8 ∧ i = 9) ∨ (15 ≤ κ ∧ κ ≤ 18)) → ¬ X κ 0 i) {E : hx_Env} (h : hx_EC μ E) {V : (Nat → Int32) → Int32} (hw : hx_wC μ' V) : hx_EC μ' (hx_uV E V) := by
  have g : ∀ κ i, ((κ = 5 ∧ i < 2) ∨ (κ = 8 ∧ i = 9) ∨ (15 ≤ κ ∧ κ ≤ 18)) → μ'.1 κ 0 i = μ.1 κ 0 i := fun κ i c => f.1 κ 0 i (hX κ i c)
  obtain ⟨h0, h1, h2, h3, h4, h5, h6, h7, _⟩ := h
  refine ⟨h0, ?_, ?_, ?_, ?_, ?_, ?_, ?_, hw⟩
  · exact (g 8 9 (by omega)).trans h1
  · exact fun i hi => (g 15 i (by omega)).trans (h2 i hi)
  · exact fun i hi => (g 16 i (by omega)).trans (h3 i hi)
  · exact fun i hi => (g 17 i (by omega)).trans (h4 i hi)
  · exact fun i k hi hk => (g 18 _ (by omega)).trans (h5 i k hi hk)
  · exact (g 5 0 (by omega)).trans h6
  · exact (g 5 1 (by omega)).trans h7
theorem hx_ERv {X : Nat → Nat → Nat → Prop} {μ μ' : hs_M} (f : hx_fr X μ μ') (hX : ∀ κ i, ((κ = 12 ∧ (i = 3 ∨ i = 8 ∨ i = 9)) ∨ (41 ≤ κ ∧ κ ≤ 44)) → ¬ X κ 0 i) {E : hx_Env} (h : hx_ER μ E) {V : (Nat → Int32) → Int32} (hw : hx_wR μ' V) : hx_ER μ' (hx_uV E V) := by
  have g : ∀ κ i, ((κ = 12 ∧ (i = 3 ∨ i = 8 ∨ i = 9)) ∨ (41 ≤ κ ∧ κ ≤ 44)) → μ'.1 κ 0 i = μ.1 κ 0 i := fun κ i c => f.1 κ 0 i (hX κ i c)
  obtain ⟨h0, h1, h2, h3, h4, h5, h6, h7, _⟩ := h
  refine ⟨h0, ?_, ?_, ?_, ?_, ?_, ?_, ?_, hw⟩
  · exact (g 12 3 (by omega)).trans h1
  · exact fun i hi => (g 41 i (by omega)).trans (h2 i hi)
  · exact fun i hi => (g 42 i (by omega)).trans (h3 i hi)
  · exact fun i hi => (g 44 i (by omega)).trans (h4 i hi)
  · exact fun i k hi hk => (g 43 _ (by omega)).trans (h5 i k hi hk)
  · exact (g 12 8 (by omega)).trans h6
  · exact (g 12 9 (by omega)).trans h7
theorem hx_zcp (d : Nat) {N : Nat} (hN : N ≤ 80) : ∀ (g k : Nat) (μ : hs_M), k + g = N → μ.1 12 0 25 = nI N → ∃ μ', he_M_will_61 d (nI k) μ = some (some (vI 0), μ') ∧ hx_fr (fun κ b i => κ = 52 ∧ b = 0 ∧ k ≤ i) μ μ' ∧ ∀ i, k ≤ i → i < N → μ'.1 52 0 i = μ.1 53 0 i
  | 0, k, μ, hg, h25 => by
    rw [hq_M_will_61, h25, if_neg (nI_nlt (by omega) (by omega))]
    exact ⟨μ, rfl, hx_rf _ _, fun i h1 h2 => absurd h1 (by omega)⟩
  | g + 1, k, μ, hg, h25 => by
    have f : hx_fr (fun κ b i => κ = 52 ∧ b = 0 ∧ k ≤ i) μ (hs_wI μ 52 0 k (μ.1 53 0 k)) := hx_wr (hx_rf _ _) _ (by omega)
    obtain ⟨μ', a1, a2, a3⟩ := hx_zcp d hN g (k + 1) (hs_wI μ 52 0 k (μ.1 53 0 k)) (by omega) (by rw [hx_rd, if_neg (by omega), h25])
    refine ⟨μ', ?_, hx_tr f (hx_mo (fun κ b i z => by omega) a2), fun i h1 h2 => ?_⟩
    · rw [hq_M_will_61, h25, if_pos (nI_lt (by omega) (by omega)), if_pos (hx_in (by omega) (by omega)), if_pos (hx_in (by omega) (by omega)), nI_clamp (by omega), nI_1, a1]
    · by_cases z : i = k
      · subst z
        rw [a2.1 52 0 i (by omega), hx_rd, if_pos ⟨rfl, rfl, rfl⟩]
      · rw [a3 i (by omega) h2, hx_rd, if_neg (by omega)]
/-- the class's frame, the reference's -/
def hx_zV (κ b i : Nat) : Prop := b = 0 ∧ ((κ = 7 ∧ (i = 1 ∨ i = 2)) ∨ (κ = 10 ∧ (i = 4 ∨ i = 5)) ∨ κ = 22)
def hx_zW (κ b i : Nat) : Prop := b = 0 ∧ ((κ = 12 ∧ (i = 0 ∨ i = 13 ∨ i = 14 ∨ i = 15 ∨ i = 16 ∨ i = 25)) ∨ κ = 53)
theorem hx_zread (d : Nat) {μ : hs_M} (hT : hx_iT μ) : ∃ l ok k', ∃ LC LR : List Int32, ∃ μ2, l ≤ 80 ∧ k' ≤ min l 40 ∧ LC.length ≤ 40 ∧ LR.length ≤ 40 ∧ (∀ c, c ∈ LR → hx_cR c) ∧ (ok = true → ∃ V : (Nat → Int32) → Int32, (LC = [] ∧ LR = [] ∧ ∀ f, V f = 1) ∨ (∀ f, hx_rL (hx_tC f) LC [] = some [V f] ∧ hx_rL (hx_tR f) LR [] = some [V f])) ∧ hc_Will_read (d + 89) μ = (if ok = true ∧ k' = l then he_Will_read_48 (d + 88) μ2 else he_Will_read_43 (d + 88) μ2) ∧ hx_fr hx_zV μ μ2 ∧ μ2.1 10 0 5 = nI k' ∧ μ2.1 10 0 4 = nI LC.length ∧ hx_zls μ2 22 0 LC ∧ ∀ μ1, hx_fr (fun κ _ _ => κ < 40 ∧ κ ≠ 12) μ μ1 → ∃ ν, hc_M_will (d + 90) μ1 = (if ok = true ∧ k' = l then he_M_will_61 (d + 89) (nI 0) (hs_wI ν 12 0 24 (nI LR.length)) else some (some (vI (-1 - nI k')), ν)) ∧ hx_fr hx_zW μ1 ν ∧ ν.1 12 0 13 = 0 ∧ ν.1 12 0 25 = nI LR.length ∧ hx_zls ν 53 0 LR := by
  obtain ⟨l, T, hl, hk, t1, t2, t3, t4, eo⟩ := hx_open hT (x := 40) (by omega)
  have eo' : hc_Text_open (d + 88) 40 μ = some (none, hs_wI μ 7 0 2 (nI (min l 40))) := eo (d + 86)
  have fa : hx_fr hx_zV μ (hs_wI (hs_wI (hs_wI μ 7 0 2 (nI (min l 40))) 10 0 5 0) 10 0 4 0) := hx_wr (hx_wr (hx_wr (hx_rf _ _) _ (by unfold hx_zV; omega)) _ (by unfold hx_zV; omega)) _ (by unfold hx_zV; omega)
  have hz : hx_zc (min l 40) T 0 0 (hs_wI (hs_wI (hs_wI μ 7 0 2 (nI (min l 40))) 10 0 5 0) 10 0 4 0) := by
    refine ⟨⟨?_, fun i hi => ?_⟩, ?_, ?_⟩
    · rw [hx_rd, if_neg (by omega), hx_rd, if_neg (by omega), hx_rd, if_pos ⟨rfl, rfl, rfl⟩]
    · rw [fa.1 13 0 i (by unfold hx_zV; omega), t3 i hi]
    · rw [hx_rd, if_neg (by omega), hx_rd, if_pos ⟨rfl, rfl, rfl⟩]
      rfl
    · rw [hx_rd, if_pos ⟨rfl, rfl, rfl⟩]
      rfl
  have v1 : (hs_wI μ 7 0 2 (nI (min l 40))).1 7 0 1 = nI l := by rw [hx_rd, if_neg (by omega), t1]
  have start : ∀ μ1, hx_fr (fun κ _ _ => κ < 40 ∧ κ ≠ 12) μ μ1 → ∃ ν, hc_M_begins (d + 89) 40 (hs_wI μ1 12 0 0 0) = some (some (vI (nI l)), ν) ∧ hx_fr hx_zW μ1 (hs_wI ν 12 0 25 0) ∧ hx_zr (min l 40) T 0 0 (hs_wI ν 12 0 25 0) ∧ (hs_wI ν 12 0 25 0).1 12 0 16 = nI 0 ∧ (hs_wI ν 12 0 25 0).1 12 0 13 = 0 := by
    intro μ1 f1
    have fw : hx_fr hx_zW μ1 (hs_wI μ1 12 0 0 0) := hx_wr (hx_rf _ _) _ (by unfold hx_zW; omega)
    refine ⟨hs_wI (hs_wI (hs_wI (hs_wI (hs_wI μ1 12 0 0 0) 12 0 13 0) 12 0 14 0) 12 0 16 0) 12 0 15 (nI (min l 40)), ?_, ?_, ⟨⟨?_, fun i hi => ?_⟩, ?_, ?_⟩, ?_, ?_⟩
    · have e13 : (hs_wI μ1 12 0 0 0).1 12 0 13 = nI l := by rw [hx_rd, if_neg (by omega), f1.1 12 0 13 (by omega), t2]
      rw [hq_M_begins, e13, show (40 : Int32) = nI 40 from rfl, hx_min, hx_bI, hx_mnN (by omega) (by omega)]
    · exact hx_wr (hx_wr (hx_wr (hx_wr (hx_wr fw _ (by unfold hx_zW; omega)) _ (by unfold hx_zW; omega)) _ (by unfold hx_zW; omega)) _ (by unfold hx_zW; omega)) _ (by unfold hx_zW; omega)
    · rw [hx_rd, if_neg (by omega), hx_rd, if_pos ⟨rfl, rfl, rfl⟩]
    · rw [hx_rd, if_neg (by omega), hx_rd, if_neg (by omega), hx_rd, if_neg (by omega), hx_rd, if_neg (by omega), hx_rd, if_neg (by omega), hx_rd, if_neg (by omega), f1.1 47 0 i (by omega), t4 i hi]
    · rw [hx_rd, if_neg (by omega), hx_rd, if_neg (by omega), hx_rd, if_neg (by omega), hx_rd, if_pos ⟨rfl, rfl, rfl⟩]
      rfl
    · rw [hx_rd, if_pos ⟨rfl, rfl, rfl⟩]
      rfl
    · rw [hx_rd, if_neg (by omega), hx_rd, if_neg (by omega), hx_rd, if_pos ⟨rfl, rfl, rfl⟩]
      rfl
    · rw [hx_rd, if_neg (by omega), hx_rd, if_neg (by omega), hx_rd, if_neg (by omega), hx_rd, if_neg (by omega), hx_rd, if_pos ⟨rfl, rfl, rfl⟩]
  have fin : ∀ (ok : Bool) (k' : Nat) (LR : List Int32) (ν : hs_M), k' ≤ min l 40 → hx_zr (min l 40) T k' (0 + LR.length) ν → hs_bI (hc_M_faultOf (d + 89) (nI l) 40 (hx_tn ok) ν) (fun r3 μ3 => if r3 < 0 then some (some (vI r3), μ3) else he_M_will_61 (d + 89) 0 (hs_wI μ3 12 0 24 (μ3.1 12 0 25))) = (if ok = true ∧ k' = l then he_M_will_61 (d + 89) (nI 0) (hs_wI ν 12 0 24 (nI LR.length)) else some (some (vI (-1 - nI k')), ν)) := by
    intro ok k' LR ν hk' hr
    rw [show hc_M_faultOf (d + 89) (nI l) 40 (hx_tn ok) ν = _ from hx_flt (d + 88) hl (x := 40) (by omega) hk' hr.2.1 hr.1.1 ok, hx_bI, hr.2.2, Nat.zero_add]
    by_cases z : ok = true ∧ k' = l
    · rw [if_pos z, if_pos z, if_neg (by decide)]
      rfl
    · rw [if_neg z, if_neg z, if_pos (hx_ng1 _ (by omega))]
  by_cases l0 : l = 0
  · refine ⟨l, true, 0, [], [], _, hl, by omega, by show 0 ≤ _; omega, by show 0 ≤ _; omega, fun c hc => absurd hc (List.not_mem_nil), fun _ => ⟨fun _ => 1, Or.inl ⟨rfl, rfl, fun _ => rfl⟩⟩, ?_, fa, hz.2.1, hz.2.2, hx_zl0 _ _ _, fun μ1 f1 => ?_⟩
    · rw [hq_Will_read, eo', hx_bV, v1, if_neg (show ¬ (0 : Int32) < nI l from nI_nlt (a := 0) (by omega) (by omega)), if_pos ⟨rfl, l0.symm⟩]
    · obtain ⟨ν, s1, s2, s3, s4, s5⟩ := start μ1 f1
      refine ⟨hs_wI ν 12 0 25 0, ?_, s2, s5, s3.2.2, hx_zl0 _ _ _⟩
      rw [hq_M_will, s1, hx_bI, if_pos (show nI l = 0 by rw [l0]; decide), hq_M_will_29]
      exact fin true 0 [] _ (by omega) s3
  obtain ⟨ok, k', LC, LR, ⟨b1, b2, b3, b4, b5⟩, hs, hC, hR⟩ := hx_zall hk (by omega) (min l 40 + 1) 0 (by omega) (by omega) 0 (by omega) 0 (by omega)
  obtain ⟨μ2, c1, c2⟩ := hC (d + 88) 0 _ (by unfold hx_zD; omega) (Nat.le_refl 0) hz
  have f2 : hx_fr hx_zV μ μ2 := hx_tr fa (hx_mo (fun κ b i z => by unfold hx_zA at z; unfold hx_zV; omega) c2.1)
  have p5 := c2.2.1.2.1
  have p4 := c2.2.1.2.2
  rw [Nat.zero_add] at p4
  refine ⟨l, ok, k', LC, LR, μ2, hl, b2, by omega, by omega, b5, fun o => ?_, ?_, f2, p5, p4, c2.2.2, fun μ1 f1 => ?_⟩
  · obtain ⟨v, hv⟩ := hs o
    exact ⟨v, Or.inr (fun f => hv f [])⟩
  · have p1 : μ2.1 7 0 1 = nI l := by
      rw [c2.1.1 7 0 1 (by unfold hx_zA; omega), hx_rd, if_neg (by omega), hx_rd, if_neg (by omega), v1]
    rw [hq_Will_read, eo', hx_bV, v1, if_pos (show (0 : Int32) < nI l from nI_lt (a := 0) (by omega) (by omega)), show hc_Will_readComparison (d + 88) 0 _ = _ from (hx_rv0 _ _ _).symm.trans c1, hx_bI, hx_tn0, p5, p1]
    by_cases o : ok = true
    · rw [if_pos o]
      by_cases z : k' = l
      · rw [if_neg (nI_nlt (by omega) (by omega)), if_pos (show ok = true ∧ k' = l from ⟨o, z⟩)]
      · rw [if_pos (nI_lt (by omega) (by omega)), if_neg (show ¬ (ok = true ∧ k' = l) from fun y => z y.2)]
    · rw [if_neg o, if_neg (show ¬ (ok = true ∧ k' = l) from fun y => o y.1)]
  · obtain ⟨ν, s1, s2, s3, s4, s5⟩ := start μ1 f1
    obtain ⟨ν2, r1, r2⟩ := hR (d + 89) 0 _ (by unfold hx_zE; omega) (Nat.le_refl 0) s3 s4
    refine ⟨ν2, ?_, hx_tr s2 (hx_mo (fun κ b i z => by unfold hx_zB at z; unfold hx_zW; omega) r2.1), ?_, ?_, r2.2.2.1⟩
    · rw [hq_M_will, s1, hx_bI, if_neg (nI_ne0 (by omega) (by omega)), show hc_M_readsRank (d + 89) 0 (hs_wI ν 12 0 25 0) = _ from r1, hx_bI, ← fin ok k' LR ν2 b2 r2.2.1]
      by_cases o : ok = true
      · subst o
        rw [if_neg (by decide), hq_M_will_29]
        rfl
      · have o' := Bool.eq_false_iff.mpr o
        subst o'
        rw [if_pos (by decide)]
        rfl
    · rw [r2.1.1 12 0 13 (by unfold hx_zB; omega), s5]
    · rw [r2.2.1.2.2, Nat.zero_add]
set_option maxHeartbeats 1000000 in
theorem hx_will (d : Nat) {n : Nat} {E : hx_Env} {t : hx_St} {μ : hs_M} (h : hx_I n E t μ) : hx_A n μ (hc_H_will (d + 90)) (hc_M_will (d + 90)) := by
  obtain ⟨l, ok, k', LC, LR, μ2, hl, hk', lc, lr, cR, sem, eC, fC, p5, p4, pL, hR⟩ := hx_zread d h.2.2.2.2.2.1
  by_cases z : ok = true ∧ k' = l
  rotate_left
  · rw [if_neg z] at eC
    have f1 : hx_fr hx_zV μ (hs_wI μ2 7 0 1 0) := hx_wr fC _ (by unfold hx_zV; omega)
    obtain ⟨ν, r1, r2, r3, r4, r5⟩ := hR _ (hx_mo (fun κ b i z => by unfold hx_zV at z; omega) f1)
    rw [if_neg z] at r1
    refine hx_Amk (v := -1 - nI k') (E := E) (t := t) ?_ r1 (hx_Ite h f1 r2 (fun κ j i z => by unfold hx_zV at z; unfold hx_gX hx_qC; omega) (fun κ j i z => by unfold hx_zW at z; unfold hx_gY hx_qR; omega) rfl ?_ ?_ (hx_iT0 ?_ r3))
    · rw [hq_H_will, eC, hq_Will_read_43, hx_bI, p5, if_neg (hx_nn1 (by omega))]
    · exact hx_ECf r2 (by intro κ i a b; unfold hx_cF at a; unfold hx_zW at b; omega) (hx_ECf f1 (by intro κ i a b; unfold hx_cF at a; unfold hx_zV at b; omega) h.1)
    · exact hx_ERf r2 (by intro κ i a b; unfold hx_rF at a; unfold hx_zW at b; omega) (hx_ERf f1 (by intro κ i a b; unfold hx_rF at a; unfold hx_zV at b; omega) h.2.1)
    · rw [r2.1 7 0 1 (by unfold hx_zW; omega), hx_rd, if_pos ⟨rfl, rfl, rfl⟩]
  rw [if_pos z, hq_Will_read_48, p4] at eC
  obtain ⟨V, hV⟩ := sem z.1
  have f1 : hx_fr (fun κ b i => hx_zV κ b i ∨ (κ = 10 ∧ i = 3) ∨ κ = 21) μ (hs_wI (hs_wI (hs_cp μ2 22 0 0 21 0 0 40) 10 0 3 (nI LC.length)) 7 0 1 0) := hx_wr (hx_wr (hx_wc (hx_mo (fun κ b i z => Or.inl z) fC) (fun i _ _ => by omega)) _ (by omega)) _ (by unfold hx_zV; omega)
  obtain ⟨ν, r1, r2, r3, r4, r5⟩ := hR _ (hx_mo (fun κ b i z => by unfold hx_zV at z; omega) f1)
  rw [if_pos z] at r1
  have fz : hx_fr (fun κ b i => κ = 12 ∧ i = 24) ν (hs_wI ν 12 0 24 (nI LR.length)) := hx_wr (hx_rf _ _) _ (by omega)
  obtain ⟨μ3, q1, q2, q3⟩ := hx_zcp (d + 89) (N := LR.length) (by omega) LR.length 0 (hs_wI ν 12 0 24 (nI LR.length)) (by omega) (by rw [hx_rd, if_neg (by omega), r4])
  have f2 : hx_fr (fun κ b i => hx_zW κ b i ∨ (κ = 12 ∧ i = 24) ∨ κ = 52) (hs_wI (hs_wI (hs_cp μ2 22 0 0 21 0 0 40) 10 0 3 (nI LC.length)) 7 0 1 0) μ3 := hx_tr (hx_tr (hx_mo (fun κ b i z => Or.inl z) r2) (hx_mo (fun κ b i z => by omega) fz)) (hx_mo (fun κ b i z => by omega) q2)
  have c21 : ∀ i v, LC[i]? = some v → μ3.1 21 0 (0 + i) = v := fun i v e => by
    obtain ⟨hi, _⟩ := List.getElem?_eq_some_iff.mp e
    rw [f2.1 21 0 (0 + i) (by unfold hx_zW; omega), hx_rd, if_neg (by omega), hx_rd, if_neg (by omega), hx_rc, if_pos (by omega), ← pL i v e]
    exact congrArg (μ2.1 22 0) (by omega)
  have c52 : ∀ i v, LR[i]? = some v → μ3.1 52 0 (0 + i) = v := fun i v e => by
    obtain ⟨hi, _⟩ := List.getElem?_eq_some_iff.mp e
    rw [q3 (0 + i) (by omega) (by omega), hx_rd, if_neg (by omega), r5 i v e]
  have nz : ∀ (tk : Int32 → List Int32 → Option (List Int32)) (L : List Int32) (x : Int32), hx_rL tk L [] = some [x] → 0 < L.length := fun tk L x e => by
    rcases L with _ | ⟨a, L⟩
    · cases e
    · exact Nat.succ_pos _
  have w3 : μ3.1 10 0 3 = nI LC.length := by
    rw [f2.1 10 0 3 (by unfold hx_zW; omega), hx_rd, if_neg (by omega), hx_rd, if_pos ⟨rfl, rfl, rfl⟩]
  have w24 : μ3.1 12 0 24 = nI LR.length := by
    rw [q2.1 12 0 24 (by omega), hx_rd, if_pos ⟨rfl, rfl, rfl⟩]
  have wC : hx_wC μ3 V := by
    refine ⟨LC.length, by omega, w3, ?_⟩
    rcases hV with ⟨e1, e2, e3⟩ | e
    · exact Or.inl ⟨by rw [e1]; rfl, e3⟩
    · exact Or.inr ⟨nz _ _ _ (e (fun _ => 0)).1, fun f => by rw [hx_rLn (hx_tC f) LC 0 [] c21, (e f).1]⟩
  have wR : hx_wR μ3 V := by
    refine ⟨LR.length, by omega, w24, fun k hk => ?_, ?_⟩
    · have e := c52 k (LR[k]) (List.getElem?_eq_getElem hk)
      rw [Nat.zero_add] at e
      rw [e]
      exact cR _ (List.getElem_mem hk)
    rcases hV with ⟨e1, e2, e3⟩ | e
    · exact Or.inl ⟨by rw [e2]; rfl, e3⟩
    · exact Or.inr ⟨nz _ _ _ (e (fun _ => 0)).2, fun f => by rw [hx_rLn (hx_tR f) LR 0 [] c52, (e f).2]⟩
  refine hx_Amk (v := 0) (μ1 := hs_wI (hs_wI (hs_cp μ2 22 0 0 21 0 0 40) 10 0 3 (nI LC.length)) 7 0 1 0) (μ2 := μ3) (E := hx_uV E V) (t := t) ?_ (r1.trans q1) (hx_Ite h f1 f2 (fun κ j i z => by unfold hx_zV at z; unfold hx_gX hx_qC hx_cF; omega) (fun κ j i z => by unfold hx_zW at z; unfold hx_gY hx_qR hx_rF; omega) rfl ?_ ?_ (hx_iT0 ?_ ?_))
  · rw [hq_H_will, eC, hx_bI, if_pos rfl]
  · exact hx_ECv (hx_tr (X := fun κ b i => (hx_zV κ b i ∨ (κ = 10 ∧ i = 3) ∨ κ = 21) ∨ κ = 12 ∨ κ = 52 ∨ κ = 53) (hx_mo (fun κ b i z => Or.inl z) f1) (hx_mo (fun κ b i z => by unfold hx_zW at z; omega) f2)) (by intro κ i a b; unfold hx_zV at b; omega) h.1 wC
  · exact hx_ERv (hx_tr (X := fun κ b i => κ < 40 ∧ κ ≠ 12 ∨ (hx_zW κ b i ∨ (κ = 12 ∧ i = 24) ∨ κ = 52)) (hx_mo (fun κ b i z => by unfold hx_zV at z; omega) f1) (hx_mo (fun κ b i z => Or.inr z) f2)) (by intro κ i a b; unfold hx_zW at b; omega) h.2.1 wR
  · rw [f2.1 7 0 1 (by unfold hx_zW; omega), hx_rd, if_pos ⟨rfl, rfl, rfl⟩]
  · rw [q2.1 12 0 13 (by omega), hx_rd, if_neg (by omega), r3]
