/-! ===== E: year, the class's weeks; a step behind a text ===== -/
/-- the class's weeks, behind the first -/
theorem hx_ypC (d : Nat) {m : Nat} (hm : m ≤ 60) {T : Nat → Int32} (hk : hx_Tk m T) {E : hx_Env} (h8 : hx_P E ≤ 8) : ∀ (g k c W : Nat) (s : hx_St) (μ : hs_M), m - k ≤ g → k ≤ m → 1 ≤ c → c ≤ k → hx_TC μ m T → hx_EC μ E → hx_SF μ 0 s → (hx_yf T (m - k) k 0).2 = true → W + (m - k) + 1 < 2 ^ 30 → hx_tw (hx_P E) W s → ∃ μ', he_H_passYear_34 (d + 5) (nI c) 0 0 (nI (m + 1)) (nI k) μ = he_H_passYear_135 (d + 5) (nI (hx_yr E (hx_ym T (m - k) k 0) c s).1) (hx_tn (hx_yr E (hx_ym T (m - k) k 0) c s).2.1) μ' ∧ hx_fr (hx_xS 0) μ μ' ∧ hx_SF μ' 0 (hx_yr E (hx_ym T (m - k) k 0) c s).2.2 := by
  intro g
  induction g with
  | zero =>
    intro k c W s μ hg hkm hc hck hT hE hs ho hW ht
    obtain ⟨k', q', b1, b2, b3, b4, b5⟩ := hx_ywC (d + 4) hk hT (nI c) (m - k) k 0 0 (by omega) (by omega) ho
    have b4 : he_H_passYear_34 (d + 5) (nI c) 0 0 (nI (m + 1)) (nI k) μ = _ := b4
    rcases b5 with ⟨e1, e2⟩ | ⟨e1, _⟩
    · have e2 : hx_ym T (m - k) k 0 = [nI q'] := e2
      rw [b4, e2, hx_yrS, hq_H_passYear_83, hq_Town_everyone, hx_bI, hE.2.1, e1]
      by_cases z : nI q' < ((1 : Int32) <<< (nI (hx_P E) &&& 31))
      · obtain ⟨μ1, p1, p2, p3⟩ := hx_pwk d hE (W := W) (by omega) ht hs (nI q') 0
        rw [hx_saZ] at p1 p3
        rw [if_pos z, if_pos ((hx_yev _ h8 q' b3).mpr z), if_neg (nI_ne0 hc (by omega)), hq_H_passYear_117, p1, hx_bI, nI_1, nI_1, (hx_yend (d + 5) (nI (c + 1)) 0 (m := m) (k := m + 1) (by omega) μ1).2 rfl]
        exact ⟨μ1, rfl, p2, p3⟩
      · rw [if_neg z, if_neg (fun y => z ((hx_yev _ h8 q' b3).mp y)), nI_1, (hx_yend (d + 5) (nI c) (nI q') (m := m) (k := m + 1) (by omega) μ).1 (by omega)]
        exact ⟨μ, rfl, hx_rf _ _, hs⟩
    · omega
  | succ g ih =>
    intro k c W s μ hg hkm hc hck hT hE hs ho hW ht
    obtain ⟨k', q', b1, b2, b3, b4, b5⟩ := hx_ywC (d + 4) hk hT (nI c) (m - k) k 0 0 (by omega) (by omega) ho
    have b4 : he_H_passYear_34 (d + 5) (nI c) 0 0 (nI (m + 1)) (nI k) μ = _ := b4
    have b5 : (k' = m ∧ hx_ym T (m - k) k 0 = [nI q']) ∨ (k' < m ∧ hx_ym T (m - k) k 0 = nI q' :: hx_ym T (m - k' - 1) (k' + 1) 0 ∧ (hx_yf T (m - k' - 1) (k' + 1) 0).2 = true) := b5
    rw [b4, hq_H_passYear_83, hq_Town_everyone, hx_bI, hE.2.1]
    by_cases z : nI q' < ((1 : Int32) <<< (nI (hx_P E) &&& 31))
    · obtain ⟨μ1, p1, p2, p3⟩ := hx_pwk d hE (W := W) (by omega) ht hs (nI q') 0
      rw [hx_saZ] at p1 p3
      rw [if_pos ((hx_yev _ h8 q' b3).mpr z), if_neg (nI_ne0 hc (by omega)), hq_H_passYear_117, p1, hx_bI, nI_1, nI_1]
      rcases b5 with ⟨e1, e2⟩ | ⟨e1, e2, e3⟩
      · rw [e2, hx_yrS, if_pos z, e1, (hx_yend (d + 5) (nI (c + 1)) 0 (m := m) (k := m + 1) (by omega) μ1).2 rfl]
        exact ⟨μ1, rfl, p2, p3⟩
      · obtain ⟨μ', r1, r2, r3⟩ := ih (k' + 1) (c + 1) (W + 1) (hx_stp E s (bt (nI q'))) μ1 (by omega) (by omega) (by omega) (by omega) (hx_TCf p2 (fun i => by unfold hx_xS; omega) hT) (hx_ECS p2 hE) p3 (by rw [show m - (k' + 1) = m - k' - 1 by omega]; exact e3) (by omega) (hx_stw h8 (by omega) ht _)
        rw [show m - (k' + 1) = m - k' - 1 by omega] at r1 r3
        rw [e2, hx_yrS, if_pos z]
        exact ⟨μ', r1, hx_tr p2 r2, r3⟩
    · rw [if_neg (fun y => z ((hx_yev _ h8 q' b3).mp y)), nI_1, (hx_yend (d + 5) (nI c) (nI q') (m := m) (k := k' + 1) (by omega) μ).1 (by omega)]
      rcases b5 with ⟨e1, e2⟩ | ⟨e1, e2, e3⟩
      · rw [e2, hx_yrS, if_neg z]
        exact ⟨μ, rfl, hx_rf _ _, hs⟩
      · rw [e2, hx_yrS, if_neg z]
        exact ⟨μ, rfl, hx_rf _ _, hs⟩
theorem hx_y135 (d : Nat) {μ : hs_M} {t : hx_St} (hs : hx_SF μ 0 t) (c x : Int32) : ∃ μ1, he_H_passYear_135 (d + 3) c x μ = some (some (vI c), μ1) ∧ hx_fr hx_xR μ μ1 ∧ hx_rwC μ1 [(t 17).toInt64, x.toInt64] := by
  obtain ⟨μb, a1, a2, a3⟩ := hx_begin (d + 1) μ (t 17).toInt64
  obtain ⟨μ1, b1, b2, b3⟩ := hx_add (d + 2) a3 (by show 1 < 16; omega) x.toInt64
  refine ⟨μ1, ?_, hx_tr a2 b2, b3⟩
  rw [hq_H_passYear_135, hs.1.2.2.2.1, a1, hx_bV, b1, hx_bV]
theorem hx_y123 (d : Nat) {μ : hs_M} {t : hx_St} (hs : hx_SR μ 45 0 t) {c n : Nat} (hc : c ≤ 100) (hn : n ≤ 100) (h31 : μ.1 12 0 31 = nI n) : ∃ μ1, he_M_year_123 (d + 2) (nI c) μ = some (some (vI (nI c)), μ1) ∧ hx_fr hx_yR μ μ1 ∧ hx_rwR μ1 [(t 17).toInt64, (hx_tn (decide (c < n))).toInt64] := by
  have fe : hx_fr hx_yR μ (hs_wI μ 12 0 1 0) := hx_wr (hx_rf _ _) _ (Or.inl ⟨rfl, rfl⟩)
  obtain ⟨μ5, e5, g5, r5⟩ := hx_ent (d + 1) (hx_rwz μ) (by show 0 < 16; omega) (t 17).toInt64
  obtain ⟨μ6, e6, g6, r6⟩ := hx_ent (d + 1) r5 (by show 1 < 16; omega) (hx_tn (decide (c < n))).toInt64
  refine ⟨μ6, ?_, hx_tr fe (hx_tr g5 g6), r6⟩
  rw [hq_M_year_123, hx_SR0 hs (by omega), e5, hx_bV, (hx_tr fe g5).1 12 0 31 (by unfold hx_yR; omega), h31]
  by_cases z : c < n
  · rw [decide_eq_true z] at e6
    rw [if_pos (nI_lt z (by omega)), hx_flag1, hx_bI, show (1 : Int32) = hx_tn true from rfl, e6, hx_bV]
  · rw [decide_eq_false z] at e6
    rw [if_neg (nI_nlt (by omega) (by omega)), hx_flag0, hx_bI, show (0 : Int32) = hx_tn false from rfl, e6, hx_bV]
/-- as hx_past, with a text read on the way -/
theorem hx_pastT (d e : Nat) {n : Nat} {E : hx_Env} {t : hx_St} {μ : hs_M} (h : hx_I n E t μ) : ∃ μr, hc_Past_remember (d + 3) 0 μ = some (none, μr) ∧ hx_fr hx_pX μ μr ∧ hx_EC μr E ∧ hx_SF μr 0 t ∧ ∀ (μ1 μz : hs_M), hx_fr (fun κ b i => hx_vX κ b i ∨ (κ = 7 ∧ i = 1)) μr μ1 → hx_fr (fun κ b i => hx_qR κ b i ∨ (κ = 12 ∧ i = 13)) μ1 μz → ∃ μp, hc_M_putsBy (e + 1) μz = some (none, μp) ∧ hx_fr hx_pY μz μp ∧ hx_ER μp E ∧ hx_SR μp 45 0 t ∧ ∀ (μ2 : hs_M) (t' : hx_St), hx_fr hx_vY μp μ2 → hx_SF μ2 0 t' → hx_SR μ2 45 0 t' → hx_tw (hx_P E) (100 * (n + 1)) t' → hx_iR μ2 → hx_iT μ2 → hx_I (n + 1) E t' μ2 := by
  obtain ⟨s, f, u, pc, pr, tw⟩ := hx_iPo h.2.2.2.2.2.2.2.1
  obtain ⟨μr, f', e1, f1, c1⟩ := hx_remC d pc h.2.2.1
  refine ⟨μr, e1, f1, hx_ECf f1 (by intro κ i a b; unfold hx_cF at a; unfold hx_pX at b; omega) h.1, hx_SFf f1 (by intro κ i a b; unfold hx_pX at b; omega) h.2.2.1, fun μ1 μz fx fz => ?_⟩
  have g1 : hx_fr (fun κ b i => hx_pX κ b i ∨ hx_vX κ b i ∨ (κ = 7 ∧ i = 1)) μ μ1 := hx_tr (hx_mo (fun _ _ _ x => Or.inl x) f1) (hx_mo (fun _ _ _ x => Or.inr x) fx)
  have sr0 : hx_SR μz 45 0 t := hx_SRf fz (by intro i a b; unfold hx_qR at b; omega) (hx_SRf g1 (by intro i a b; unfold hx_pX hx_vX hx_qX hx_qC at b; omega) h.2.2.2.1)
  have er0 : hx_ER μz E := hx_ERf fz (by intro κ i a b; unfold hx_rF at a; unfold hx_qR at b; omega) (hx_ERf g1 (by intro κ i a b; unfold hx_rF at a; unfold hx_pX hx_vX hx_qX hx_qC at b; omega) h.2.1)
  have pr0 : hx_pR μz s u := hx_pRf fz (by intro κ b i a b; unfold hx_pY at a; unfold hx_qR at b; omega) (hx_pRf g1 (by intro κ b i a b; unfold hx_pY at a; unfold hx_pX hx_vX hx_qX hx_qC at b; omega) pr)
  obtain ⟨μp, e2, f2, r2⟩ := hx_remR e pc.1 pr0 sr0
  refine ⟨μp, e2, f2, hx_ERf f2 (by intro κ i a b; unfold hx_rF at a; unfold hx_pY at b; omega) er0, hx_SRf f2 (by intro i a b; unfold hx_pY at b; omega) sr0, fun μ2 t' fy hS hR ht hr hT => ?_⟩
  have g2 : hx_fr (fun κ b i => (hx_qR κ b i ∨ (κ = 12 ∧ i = 13)) ∨ hx_pY κ b i ∨ hx_vY κ b i) μ1 μ2 := hx_tr (hx_tr (hx_mo (fun _ _ _ x => Or.inl x) fz) (hx_mo (fun _ _ _ x => Or.inr (Or.inl x)) f2)) (hx_mo (fun _ _ _ x => Or.inr (Or.inr x)) fy)
  obtain ⟨a, b, _, _, _, _, _, _, k4, k5, k6⟩ := hx_Ix h g1 g2
  refine ⟨a ?_, b ?_, hS, hR, ht, hT, hr, hx_iPk (hx_pCf g2 ?_ (hx_pCf fx ?_ c1)) (hx_pRf fy ?_ r2) (fun k hk => hx_twm (hx_ustw pc.1 tw h.2.2.2.2.1 k hk) (by omega)), k4 ?_, k5 ?_, k6 ?_⟩
  · intro κ i x
    unfold hx_cF at x
    constructor
    · unfold hx_pX hx_vX hx_qX hx_qC
      omega
    · unfold hx_pY hx_vY hx_qY hx_qR
      omega
  · intro κ i x
    unfold hx_rF at x
    constructor
    · unfold hx_pX hx_vX hx_qX hx_qC
      omega
    · unfold hx_pY hx_vY hx_qY hx_qR
      omega
  · intro κ b i a b
    unfold hx_pX at a
    unfold hx_pY hx_vY hx_qY hx_qR at b
    omega
  · intro κ b i a b
    unfold hx_pX at a
    unfold hx_vX hx_qX hx_qC at b
    omega
  · intro κ b i a b
    unfold hx_pY at a
    unfold hx_vY hx_qY hx_qR at b
    omega
  · intro κ j i x
    unfold hx_fK at x
    constructor
    · unfold hx_pX hx_vX hx_qX hx_qC
      omega
    · unfold hx_pY hx_vY hx_qY hx_qR
      omega
  · intro κ j i x
    unfold hx_fW at x
    constructor
    · unfold hx_pX hx_vX hx_qX hx_qC
      omega
    · unfold hx_pY hx_vY hx_qY hx_qR
      omega
  · intro κ j i x
    unfold hx_fD at x
    constructor
    · unfold hx_pX hx_vX hx_qX hx_qC
      omega
    · unfold hx_pY hx_vY hx_qY hx_qR
      omega
