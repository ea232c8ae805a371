/-! ===== E: dies ===== -/
def hx_dv (t : hx_St) (x : Int32) : Int32 := t 16 &&& (((1 : Int32) <<< (x &&& 31)) ^^^ (-1))
theorem hx_pw16h (t : hx_St) (v : Int32) : hx_hold (hx_pw t 16 v) = hx_hold t ∧ hx_holds (hx_pw t 16 v) = hx_holds t := by
  unfold hx_hold hx_holds
  rw [hx_pwO _ _ (by omega)]
  exact ⟨hx_hcc _ (fun k _ => hx_pwO _ _ (by omega)), hx_hbc _ (fun k _ => hx_pwO _ _ (by omega))⟩
theorem hx_SFa {μ : hs_M} {t : hx_St} (hs : hx_SF μ 0 t) (v : Int32) : hx_SF (hs_wI μ 6 0 3 v) 0 (hx_pw t 16 v) := by
  obtain ⟨⟨h1, h2, h3, h4, h5, h6, h7, h8⟩, k6, k26, k27, k28, k29⟩ := hs
  have fh := hx_pw16h t v
  have f : hx_fr (fun κ b i => κ = 6 ∧ b = 0 ∧ i = 3) μ (hs_wI μ 6 0 3 v) := hx_wr (hx_rf _ _) _ ⟨rfl, rfl, rfl⟩
  refine ⟨⟨?_, ?_, ?_, ?_, ?_, ?_, ?_, ?_⟩, ?_, ?_, ?_, ?_, ?_⟩
  · intro i hi
    rw [f.1 24 0 i (by omega), hx_pwO _ _ (by omega), h1 i hi]
  · intro i hi
    rw [f.1 25 0 i (by omega), hx_pwO _ _ (by omega), h2 i hi]
  · rw [hx_rd, if_pos ⟨rfl, rfl, rfl⟩]
    exact (if_pos rfl).symm
  · rw [f.1 6 0 1 (by omega), hx_pwO _ _ (by omega), h4]
  · rw [f.1 6 0 2 (by omega), hx_pwO _ _ (by omega), hx_pwO _ _ (by omega), h5]
  · rw [f.1 6 0 0 (by omega), hx_pwO _ _ (by omega), h6]
  · rw [f.1 6 0 4 (by omega), fh.2, h7]
  · rw [f.1 6 0 5 (by omega), fh.1, h8]
  · rw [f.1 6 0 6 (by omega), hx_pwO _ _ (by omega), k6]
  · intro i hi
    rw [f.1 26 0 i (by omega), hx_pwO _ _ (by omega), k26 i hi]
  · intro i hi
    rw [f.1 27 0 i (by omega), hx_pwO _ _ (by omega), k27 i hi]
  · intro i hi
    rw [f.1 28 0 i (by omega), hx_pwO _ _ (by omega), k28 i hi]
  · intro i hi
    rw [f.1 29 0 i (by omega), hx_pwO _ _ (by omega), k29 i hi]
theorem hx_pw16tw {P W : Nat} (h8 : P ≤ 8) {t : hx_St} (ht : hx_tw P W t) (v : Int32) : hx_tw P W (hx_pw t 16 v) := by
  obtain ⟨h1, h2, ⟨L, hL, e20, hl⟩, h4⟩ := ht
  refine ⟨?_, ?_, ⟨L, hL, ?_, ?_⟩, ?_⟩
  · rw [hx_pwO _ _ (by omega)]
    exact h1
  · rw [hx_pwO _ _ (by omega)]
    exact h2
  · rw [hx_pwO _ _ (by omega)]
    exact e20
  · intro k hk
    rw [hx_pwO _ _ (by omega), hx_pwO _ _ (by omega), hx_pwO _ _ (by omega)]
    exact hl k hk
  · intro q hq
    rw [hx_pwO _ _ (by omega)]
    exact h4 q hq
/-- the server died -/
def hx_dd (t : hx_St) (L : Nat) (v : Int32) : hx_St := hx_pw (hx_pw (hx_flk (hx_pw t 16 v) L) 17 (-1)) 18 0
theorem hx_ddO (t : hx_St) (L : Nat) (v : Int32) {i : Nat} (h1 : i ≠ 16) (h2 : i ≠ 17) (h3 : i ≠ 18) (h4 : i < 45 ∨ 45 + L ≤ i) : hx_dd t L v i = t i := by
  unfold hx_dd
  rw [hx_pwO _ _ h3, hx_pwO _ _ h2]
  unfold hx_flk
  rw [if_neg (by omega), hx_pwO _ _ h1]
theorem hx_dd16 (t : hx_St) (L : Nat) (v : Int32) : hx_dd t L v 16 = v := by
  unfold hx_dd
  rw [hx_pwO _ _ (by omega), hx_pwO _ _ (by omega), hx_flO _ _ (by omega)]
  exact if_pos rfl
theorem hx_dd17 (t : hx_St) (L : Nat) (v : Int32) : hx_dd t L v 17 = -1 := by
  unfold hx_dd
  rw [hx_pwO _ _ (by omega)]
  exact if_pos rfl
theorem hx_dd45 (t : hx_St) (L : Nat) (v : Int32) (i : Nat) : hx_dd t L v (45 + i) = if i < L ∧ t (45 + i) < 0 then t 19 else t (45 + i) := by
  unfold hx_dd
  rw [hx_pwO _ _ (by omega), hx_pwO _ _ (by omega)]
  unfold hx_flk
  rw [hx_pwO _ _ (by omega), hx_pwO _ _ (by omega)]
  by_cases c : i < L ∧ t (45 + i) < 0
  · rw [if_pos c, if_pos ⟨by omega, by omega, c.2⟩]
  · rw [if_neg c, if_neg (fun z => c ⟨by omega, z.2.2⟩)]
theorem hx_ddn {t : hx_St} {L m : Nat} (e19 : t 19 = nI m) (hm : m < 2 ^ 31) (v : Int32) : ∀ k, k < L → ¬ hx_dd t L v (45 + k) < 0 := by
  intro k hk
  rw [hx_dd45]
  by_cases c : t (45 + k) < 0
  · rw [if_pos ⟨hk, c⟩, e19]
    exact nI_pos hm
  · rw [if_neg (fun z => c z.2)]
    exact c
theorem hx_ddh {t : hx_St} {L m : Nat} (hL : L ≤ 12) (e20 : t 20 = nI L) (e19 : t 19 = nI m) (hm : m < 2 ^ 31) (v : Int32) : hx_hold (hx_dd t L v) = 0 ∧ hx_holds (hx_dd t L v) = 0 := by
  unfold hx_hold hx_holds
  rw [hx_ddO t L v (by omega) (by omega) (by omega) (by omega), e20, nI_clamp (by omega)]
  exact ⟨hx_hc0 L (hx_ddn e19 hm v), hx_hb0 L (hx_ddn e19 hm v)⟩
theorem hx_ddtw {P W : Nat} (h8 : P ≤ 8) (hW : W < 2 ^ 31) {t : hx_St} (ht : hx_tw P W t) {L : Nat} (hL : L ≤ 12) (e20 : t 20 = nI L) (v : Int32) : hx_tw P W (hx_dd t L v) := by
  obtain ⟨h1, ⟨m, hm, e19⟩, h3, h4⟩ := ht
  refine ⟨Or.inl (hx_dd17 t L v), ⟨m, hm, ?_⟩, ⟨L, hL, ?_, ?_⟩, ?_⟩
  · rw [hx_ddO t L v (by omega) (by omega) (by omega) (by omega), e19]
  · rw [hx_ddO t L v (by omega) (by omega) (by omega) (by omega), e20]
  · intro k hk z
    exact absurd z (hx_ddn e19 (by omega) v k hk)
  · intro p hp
    rw [hx_ddO t L v (by omega) (by omega) (by omega) (by omega)]
    exact h4 p hp
theorem hx_bur (d : Nat) {μ : hs_M} {t : hx_St} (hs : hx_SF μ 0 t) {P W : Nat} (hW : W < 2 ^ 30) (ht : hx_tw P W t) {L : Nat} (hL : L ≤ 12) (e20 : t 20 = nI L) (x : Int32) (hx : t 17 = x) : ∃ μ', hc_State_bury (d + 2) 0 x μ = some (some (vI (nI (hx_hold t))), μ') ∧ hx_fr (fun κ b _ => b = 0 ∧ (κ = 6 ∨ κ = 28)) μ μ' ∧ hx_SF μ' 0 (hx_dd t L (hx_dv t x)) := by
  obtain ⟨⟨h1, h2, h3, h4, h5, h6, h7, h8⟩, k6, k26, k27, k28, k29⟩ := hs
  obtain ⟨_, ⟨m, hm, e19⟩, _, _⟩ := id ht
  have fa : hx_fr (fun κ b i => b = 0 ∧ κ = 6 ∧ (i = 1 ∨ i = 2 ∨ i = 3)) μ (hs_wI (hs_wI (hs_wI μ 6 0 3 (hx_dv t x)) 6 0 1 (-1)) 6 0 2 0) := hx_wr (hx_wr (hx_wr (hx_rf _ _) _ (by omega)) _ (by omega)) _ (by omega)
  obtain ⟨μ1, e1, f1, g4, g5, g28⟩ := hx_drop d (j := 0) (h := hx_hold t) (B := hx_holds t) (μ := hs_wI (hs_wI (hs_wI μ 6 0 3 (hx_dv t x)) 6 0 1 (-1)) 6 0 2 0) (by have z := hx_hcle (t := t) L; unfold hx_hold; rw [e20, nI_clamp (by omega)]; omega) (by rw [fa.1 6 0 4 (by omega), h7]) (by rw [fa.1 6 0 5 (by omega), h8]) (hx_hB0 ht)
  have r : ∀ κ i, κ ≠ 28 → ¬ (κ = 6 ∧ (i = 1 ∨ i = 2 ∨ i = 3 ∨ i = 4 ∨ i = 5)) → μ1.1 κ 0 i = μ.1 κ 0 i := fun κ i a b => by
    rw [f1.1 κ 0 i (by unfold hx_xD; omega), fa.1 κ 0 i (by omega)]
  have o : ∀ i, i < 16 ∨ (18 < i ∧ i < 45) ∨ 57 ≤ i → hx_dd t L (hx_dv t x) i = t i := fun i hi => hx_ddO t L _ (by omega) (by omega) (by omega) (by omega)
  have hh := hx_ddh hL e20 e19 (by omega) (hx_dv t x)
  refine ⟨μ1, ?_, hx_tr (hx_mo (fun κ b i z => by omega) fa) (hx_mo (fun κ b i z => by unfold hx_xD at z; omega) f1), ⟨?_, ?_, ?_, ?_, ?_, ?_, ?_, ?_⟩, ?_, ?_, ?_, ?_, ?_⟩
  · rw [hq_State_bury, h4, if_pos hx, h3]
    show hs_bI (hc_State_dropLaws (d + 1) 0 (hs_wI (hs_wI (hs_wI μ 6 0 3 (hx_dv t x)) 6 0 1 (-1)) 6 0 2 0)) _ = _
    rw [e1, hx_bI]
  · intro i hi
    rw [r 24 i (by omega) (by omega), o i (by omega), h1 i hi]
  · intro i hi
    rw [r 25 i (by omega) (by omega), o _ (by omega), h2 i hi]
  · rw [f1.1 6 0 3 (by unfold hx_xD; omega), hx_dd16, hx_rd, if_neg (by omega), hx_rd, if_neg (by omega), hx_rd, if_pos ⟨rfl, rfl, rfl⟩]
  · rw [f1.1 6 0 1 (by unfold hx_xD; omega), hx_dd17, hx_rd, if_neg (by omega), hx_rd, if_pos ⟨rfl, rfl, rfl⟩]
  · rw [f1.1 6 0 2 (by unfold hx_xD; omega), hx_dd17, hx_rd, if_pos ⟨rfl, rfl, rfl⟩]
    exact (if_pos (by decide)).symm
  · rw [r 6 0 (by omega) (by omega), o _ (by omega), h6]
  · rw [g4, hh.2]
  · rw [g5, hh.1]
    rfl
  · rw [r 6 6 (by omega) (by omega), o _ (by omega), k6]
  · intro i hi
    rw [r 26 i (by omega) (by omega), o _ (by omega), k26 i hi]
  · intro i hi
    rw [r 27 i (by omega) (by omega), o _ (by omega), k27 i hi]
  · intro i hi
    rw [g28 i hi, hx_dd45, fa.1 6 0 0 (by omega), fa.1 28 0 i (by omega), h6, k28 i hi]
    unfold hx_holds
    rw [e20, nI_clamp (by omega), hx_hbt (by omega) L (by omega)]
    by_cases c : i < L ∧ t (45 + i) < 0
    · rw [if_pos c, if_pos (decide_eq_true c)]
    · rw [if_neg c, if_neg (fun z => c (of_decide_eq_true z))]
  · intro i hi
    rw [r 29 i (by omega) (by omega), o _ (by omega), k29 i hi]
theorem hx_dies (d : Nat) {n : Nat} (hn : n ≤ 512) {E : hx_Env} {t : hx_St} {μ : hs_M} (h : hx_I n E t μ) (x : Int32) : hx_A n μ (hc_H_dies (d + 4) x) (hc_M_dies (d + 4) x) := by
  have h8 := h.1.1.1
  have h0 := hx_I0 (hx_Ia h)
  by_cases hA : hx_isA (hx_P E) t x = true
  rotate_left
  · apply hx_Anone h (v := -1)
    · rw [hq_H_dies, hx_there _ h.1 h.2.2.1.1, hx_bI, hx_tn0, if_neg hA]
    · rw [hq_M_dies, hx_isAM _ h0.2.1 h0.2.2.2.1, hx_bI, hx_tn0, if_neg hA]
  obtain ⟨μr, e1, f1, hE, hS, K⟩ := hx_past d (d + 2) h
  by_cases c : t 17 = x
  · obtain ⟨L, hL, e20, hl⟩ := h.2.2.2.2.1.2.2.1
    obtain ⟨μ1, e2, f2, s2⟩ := hx_bur (d + 1) hS (by omega) h.2.2.2.2.1 hL e20 x c
    obtain ⟨μp, e3, f3, er0, sr0, er, sr, mk⟩ := K _ μ1 f2 (fun κ b i z => Or.inl ⟨by omega, z.1⟩)
    have p16 : μp.1 45 0 16 = t 16 := hx_SR0 sr (by omega)
    have p17 : μp.1 45 0 17 = t 17 := hx_SR0 sr (by omega)
    have s3 : hx_SR (hs_wI μp 45 0 16 (hx_dv t x)) 45 0 (hx_pw t 16 (hx_dv t x)) := hx_SRw sr (if_pos rfl) (fun i _ z => if_neg z)
    obtain ⟨μf, e4, f4, s4⟩ := hx_falls (d + 2) (κ := 45) (Or.inl rfl) (hx_pw16tw h8 h.2.2.2.2.1 (hx_dv t x)) s3
    rw [(hx_pw16h t _).1] at e4
    rw [hx_pwO t _ (show 20 ≠ 16 by omega), e20, nI_clamp (by omega)] at s4
    have s5 : hx_SR (hs_wI μf 45 0 17 (-1)) 45 0 (hx_pw (hx_flk (hx_pw t 16 (hx_dv t x)) L) 17 (-1)) := hx_SRw s4 (if_pos rfl) (fun i _ z => if_neg z)
    have s6 : hx_SR (hs_wI (hs_wI μf 45 0 17 (-1)) 45 0 18 0) 45 0 (hx_dd t L (hx_dv t x)) := hx_SRw s5 (by unfold hx_dd; exact if_pos rfl) (fun i _ z => by unfold hx_dd; exact if_neg z)
    refine hx_Amk (v := nI (hx_hold t)) (μ1 := μ1) (μ2 := hs_wI (hs_wI μf 45 0 17 (-1)) 45 0 18 0) (E := E) (t := hx_dd t L (hx_dv t x)) ?_ ?_ ?_
    · rw [hq_H_dies, hx_there _ h.1 h.2.2.1.1, hx_bI, hx_tn0, if_pos hA, e1, hx_bV, e2, hx_bI]
    · rw [hq_M_dies, hx_isAM _ er0 sr0, hx_bI, hx_tn0, if_pos hA, e3, hx_bV, p17, if_pos c, p16]
      show hs_bI (hc_M_falls (d + 3) 45 (hs_wI μp 45 0 16 (hx_dv t x))) _ = _
      rw [e4, hx_bI]
    · have fy : hx_fr (fun κ _ _ => κ = 45) μp (hs_wI (hs_wI μf 45 0 17 (-1)) 45 0 18 0) := hx_wr (hx_wr (hx_tr (hx_wr (hx_rf _ _) _ rfl) (hx_mo (fun κ b i z => z.2) f4)) _ rfl) _ rfl
      have fw : hx_fr (fun κ _ i => κ = 12 ∧ i = 0) μ1 (hs_wI μ1 12 0 0 0) := hx_wr (hx_rf _ _) _ ⟨rfl, rfl⟩
      refine mk _ _ _ fy (fun κ b i z => Or.inl z) ?_ s6 (hx_twm (hx_ddtw h8 (by omega) h.2.2.2.2.1 hL e20 _) (by omega)) (Or.inl (fun κ i z => ⟨by omega, by omega⟩))
      exact hx_SFf fy (by intro κ i a b; omega) (hx_SFf f3 (by intro κ i a b; unfold hx_pY at b; omega) (hx_SFf fw (by intro κ i a b; omega) s2))
  · have f2 : hx_fr (fun κ b i => κ = 6 ∧ b = 0 ∧ i = 3) μr (hs_wI μr 6 0 3 (hx_dv t x)) := hx_wr (hx_rf _ _) _ ⟨rfl, rfl, rfl⟩
    have s2 := hx_SFa hS (hx_dv t x)
    obtain ⟨μp, e3, f3, er0, sr0, er, sr, mk⟩ := K _ _ f2 (fun κ b i z => Or.inl ⟨by omega, z.2.1⟩)
    have p16 : μp.1 45 0 16 = t 16 := hx_SR0 sr (by omega)
    have p17 : μp.1 45 0 17 = t 17 := hx_SR0 sr (by omega)
    have s3 : hx_SR (hs_wI μp 45 0 16 (hx_dv t x)) 45 0 (hx_pw t 16 (hx_dv t x)) := hx_SRw sr (if_pos rfl) (fun i _ z => if_neg z)
    refine hx_Amk (v := 0) (μ1 := hs_wI μr 6 0 3 (hx_dv t x)) (μ2 := hs_wI μp 45 0 16 (hx_dv t x)) (E := E) (t := hx_pw t 16 (hx_dv t x)) ?_ ?_ ?_
    · rw [hq_H_dies, hx_there _ h.1 h.2.2.1.1, hx_bI, hx_tn0, if_pos hA, e1, hx_bV, hq_State_bury, hS.1.2.2.2.1, if_neg c, hx_bI, hS.1.2.2.1]
      rfl
    · rw [hq_M_dies, hx_isAM _ er0 sr0, hx_bI, hx_tn0, if_pos hA, e3, hx_bV, p17, if_neg c, p16]
      rfl
    · have fy : hx_fr (fun κ _ _ => κ = 45) μp (hs_wI μp 45 0 16 (hx_dv t x)) := hx_wr (hx_rf _ _) _ rfl
      have fw : hx_fr (fun κ _ i => κ = 12 ∧ i = 0) (hs_wI μr 6 0 3 (hx_dv t x)) (hs_wI (hs_wI μr 6 0 3 (hx_dv t x)) 12 0 0 0) := hx_wr (hx_rf _ _) _ ⟨rfl, rfl⟩
      refine mk _ _ _ fy (fun κ b i z => Or.inl z) ?_ s3 (hx_twm (hx_pw16tw h8 h.2.2.2.2.1 _) (by omega)) (Or.inl (fun κ i z => ⟨by omega, by omega⟩))
      exact hx_SFf fy (by intro κ i a b; omega) (hx_SFf f3 (by intro κ i a b; unfold hx_pY at b; omega) (hx_SFf fw (by intro κ i a b; omega) s2))
