/-! ===== E: the town grows, or is told anew ===== -/
def hx_gX (κ j i : Nat) : Prop := hx_cF κ i ∨ hx_qC κ j i ∨ (κ = 7 ∧ i = 1)
def hx_gY (κ j i : Nat) : Prop := hx_rF κ i ∨ hx_qR κ j i ∨ (κ = 12 ∧ i = 13)
theorem hx_iT0 {μ : hs_M} (h1 : μ.1 7 0 1 = 0) (h2 : μ.1 12 0 13 = 0) : hx_iT μ := ⟨0, by omega, h1, h2, fun i hi => absurd hi (by omega)⟩
/-- a text was read: town and will may be others, the state stays -/
theorem hx_Ite {X Y : Nat → Nat → Nat → Prop} {n : Nat} {E E' : hx_Env} {t : hx_St} {μ μ1 μ2 : hs_M} (h : hx_I n E t μ) (f1 : hx_fr X μ μ1) (f2 : hx_fr Y μ1 μ2) (hX : ∀ κ j i, X κ j i → hx_gX κ j i) (hY : ∀ κ j i, Y κ j i → hx_gY κ j i) (hP : hx_P E' = hx_P E) (h1 : hx_EC μ2 E') (h2 : hx_ER μ2 E') (hT : hx_iT μ2) : hx_I (n + 1) E' t μ2 := by
  obtain ⟨_, _, c, e, g, _, h2', h3, h4, h5, h6⟩ := hx_Ix h (hx_mo hX f1) (hx_mo hY f2)
  unfold hx_I
  rw [hP]
  refine ⟨h1, h2, c ?_, e ?_, g, hT, h2' ?_, h3 ?_, h4 ?_, h5 ?_, h6 ?_⟩ <;> intros <;> simp only [hx_gX, hx_gY, hx_qC, hx_qR, hx_cF, hx_rF, hx_fP, hx_fK, hx_fW, hx_fD] at * <;> omega
def hx_hX (κ j i : Nat) : Prop := hx_gX κ j i ∨ ((κ = 6 ∨ (24 ≤ κ ∧ κ ≤ 29)) ∧ j = 0) ∨ (κ = 3 ∧ i = 4)
def hx_hY (κ j i : Nat) : Prop := hx_gY κ j i ∨ κ = 45 ∨ (κ = 12 ∧ i = 28)
theorem hx_iKm {P P' W : Nat} {μ : hs_M} (hP : P ≤ P') (h : hx_iK P W μ) : hx_iK P' W μ := fun i hi => by
  rcases h i hi with a | ⟨a, q, v, b1, b⟩
  · exact Or.inl a
  · exact Or.inr ⟨a, q, v, by omega, b⟩
theorem hx_iWm {P P' : Nat} {μ : hs_M} (hP : P ≤ P') (h : hx_iW P μ) : hx_iW P' μ := by
  obtain ⟨m, h1, h2, h3, h4⟩ := h
  refine ⟨m, h1, h2, h3, fun k hk => ?_⟩
  obtain ⟨⟨p, hp, e⟩, b⟩ := h4 k hk
  exact ⟨⟨p, by omega, e⟩, b⟩
theorem hx_iDm {P P' : Nat} {μ : hs_M} (hP : P ≤ P') (h : hx_iD P μ) : hx_iD P' μ := by
  obtain ⟨m, h1, h2, h3, h4⟩ := h
  refine ⟨m, h1, h2, h3, fun k hk => ?_⟩
  obtain ⟨⟨p, hp, e⟩, b⟩ := h4 k hk
  exact ⟨⟨p, by omega, e⟩, b⟩
/-- people came: the steps are forgotten -/
theorem hx_Igr {X Y : Nat → Nat → Nat → Prop} {n : Nat} {E E' : hx_Env} {t t' : hx_St} {μ μ1 μ2 : hs_M} (h : hx_I n E t μ) (f1 : hx_fr X μ μ1) (f2 : hx_fr Y μ1 μ2) (hX : ∀ κ j i, X κ j i → hx_hX κ j i) (hY : ∀ κ j i, Y κ j i → hx_hY κ j i) (hP : hx_P E ≤ hx_P E') (h1 : hx_EC μ2 E') (h2 : hx_ER μ2 E') (hS : hx_SF μ2 0 t') (hR : hx_SR μ2 45 0 t') (ht : hx_tw (hx_P E') (100 * (n + 1)) t') (hT : hx_iT μ2) (s1 : μ2.1 3 0 4 = 0) (s2 : μ2.1 12 0 28 = 0) : hx_I (n + 1) E' t' μ2 := by
  obtain ⟨_, _, _, _, _, _, h2', _, h4, h5, h6⟩ := hx_Ix h (hx_mo hX f1) (hx_mo hY f2)
  obtain ⟨s, f, u, a1, a2, a3, a4, a5, a6⟩ := h.2.2.2.2.2.2.2.1
  refine ⟨h1, h2, hS, hR, ht, hT, h2' ?_, ⟨0, f, u, by omega, a2, s1, ?_, s2, fun k hk => absurd hk (by omega)⟩, hx_iKm hP (h4 ?_), hx_iWm hP (h5 ?_), hx_iDm hP (h6 ?_)⟩
  rotate_left
  · rw [(hx_mo hY f2).1 3 0 3 (by simp only [hx_hY, hx_gY, hx_qR, hx_rF]; omega), (hx_mo hX f1).1 3 0 3 (by simp only [hx_hX, hx_gX, hx_qC, hx_cF]; omega), a4]
  all_goals intros
  all_goals simp only [hx_hX, hx_hY, hx_gX, hx_gY, hx_qC, hx_qR, hx_cF, hx_rF, hx_fK, hx_fW, hx_fD] at *
  all_goals omega
/-! twin -/
def hx_twE (E : hx_Env) (p : Nat) : hx_Env := (hx_P E + 1, hx_up (hx_Pt E) (hx_P E) (hx_Pt E p), hx_up (hx_Il E) (hx_P E) (hx_Il E p), (fun i => if i = hx_P E then hx_Hl E p else hx_Hl E i), (fun i k => if i = hx_P E then hx_Hb E p k else hx_Hb E i k), hx_G E, hx_O E, hx_V E)
theorem hx_twok {E : hx_Env} (h : hx_ok E) (hP : hx_P E < 8) {p : Nat} (hp : p < hx_P E) : hx_ok (hx_twE E p) := by
  obtain ⟨a, b, c, d, e, f⟩ := h
  refine ⟨show hx_P E + 1 ≤ 8 by omega, fun i hi => ?_, c, d, fun i hi => ?_, f⟩
  · have hi' : i < hx_P E + 1 := hi
    show (if i = hx_P E then hx_Hl E p else hx_Hl E i) ≤ 6
    by_cases z : i = hx_P E
    · rw [if_pos z]
      exact b p hp
    · rw [if_neg z]
      exact b i (by omega)
  · have hi' : i < hx_P E + 1 := hi
    show ∃ n, n ≤ 9 ∧ (if i = hx_P E then hx_Il E p else hx_Il E i) = nI n
    by_cases z : i = hx_P E
    · rw [if_pos z]
      exact e p hp
    · rw [if_neg z]
      exact e i (by omega)
/-- the class's copy of a person -/
theorem hx_cpP (d : Nat) {μ : hs_M} {E : hx_Env} (hE : hx_EC μ E) (hP : hx_P E < 8) {p : Nat} (hp : p < hx_P E) : ∃ μ', hc_Town_copyPerson (d + 1) (nI p) (nI (hx_P E)) μ = some (none, μ') ∧ hx_fr (fun κ b i => b = 0 ∧ ((15 ≤ κ ∧ κ ≤ 17 ∧ i = hx_P E) ∨ (κ = 18 ∧ 6 * hx_P E ≤ i))) μ μ' ∧ μ'.1 15 0 (hx_P E) = hx_Pt E p ∧ μ'.1 16 0 (hx_P E) = hx_Il E p ∧ μ'.1 17 0 (hx_P E) = nI (hx_Hl E p) ∧ ∀ k, k < hx_Hl E p → μ'.1 18 0 (6 * hx_P E + k) = hx_Hb E p k := by
  obtain ⟨k0, k1, k2, k3, k4, k5, _⟩ := hE
  have hl := k0.2.1 p hp
  have hw : hx_fr (fun κ b i => b = 0 ∧ ((15 ≤ κ ∧ κ ≤ 17 ∧ i = hx_P E) ∨ (κ = 18 ∧ 6 * hx_P E ≤ i))) μ (hs_wI (hs_wI (hs_wI μ 15 0 (hx_P E) (hx_Pt E p)) 16 0 (hx_P E) (hx_Il E p)) 17 0 (hx_P E) (nI (hx_Hl E p))) := hx_wr (hx_wr (hx_wr (hx_rf _ _) _ (by omega)) _ (by omega)) _ (by omega)
  refine ⟨hs_cp (hs_wI (hs_wI (hs_wI μ 15 0 (hx_P E) (hx_Pt E p)) 16 0 (hx_P E) (hx_Il E p)) 17 0 (hx_P E) (nI (hx_Hl E p))) 18 0 (p * 6) 18 0 (hx_P E * 6) 6, ?_, hx_wc hw (fun i a b => by omega), ?_, ?_, ?_, ?_⟩
  · have c1 : hs_cok (nI (p * 6)) (nI (hx_P E * 6)) 6 48 48 = true := by
      unfold hs_cok
      rw [nI_clamp (by omega), nI_clamp (by omega), decide_eq_true (nI_pos' (by omega)), decide_eq_true (nI_pos' (by omega)), show (6 : Int32).toNatClampNeg = 6 from rfl, decide_eq_true (show p * 6 + 6 ≤ 48 by omega), decide_eq_true (show hx_P E * 6 + 6 ≤ 48 by omega)]
      decide
    rw [hq_Town_copyPerson, if_pos (hx_in (by omega) (by omega)), if_pos (hx_in (by omega) (by omega)), if_pos (hx_in (by omega) (by omega)), if_pos (hx_in (by omega) (by omega)), if_pos (hx_in (by omega) (by omega)), if_pos (hx_in (by omega) (by omega)), show nI p * 6 = nI (p * 6) from pk_mul p 6, show nI (hx_P E) * 6 = nI (hx_P E * 6) from pk_mul _ 6, if_pos c1, nI_clamp (by omega), nI_clamp (by omega), nI_clamp (by omega), nI_clamp (by omega), k2 p hp, k3 p hp, k4 p hp]
  · rw [hx_rc, if_neg (by omega), hx_rd, if_neg (by omega), hx_rd, if_neg (by omega), hx_rd, if_pos ⟨rfl, rfl, rfl⟩]
  · rw [hx_rc, if_neg (by omega), hx_rd, if_neg (by omega), hx_rd, if_pos ⟨rfl, rfl, rfl⟩]
  · rw [hx_rc, if_neg (by omega), hx_rd, if_pos ⟨rfl, rfl, rfl⟩]
  · intro k hk
    rw [hx_rc, if_pos ⟨rfl, rfl, by omega, by omega⟩, hw.1 18 0 _ (by omega), show p * 6 + (6 * hx_P E + k - hx_P E * 6) = 6 * p + k by omega, k5 p k hp hk]
theorem hx_pHL (d : Nat) {p x : Nat} (hp : p < 8) (hx : x < 9) {μ0 : hs_M} : ∀ (m k : Nat) (μ : hs_M), k + m = 6 → hx_fr (fun κ b i => b = 0 ∧ κ = 43 ∧ 6 * p ≤ i ∧ i < 6 * p + 6) μ0 μ → (∀ i, i < k → μ.1 43 0 (6 * p + i) = μ0.1 50 0 (6 * x + i)) → ∃ μ', he_M_putsHabit_14 d (nI p) (nI x) (nI k) μ = some (none, μ') ∧ hx_fr (fun κ b i => b = 0 ∧ κ = 43 ∧ 6 * p ≤ i ∧ i < 6 * p + 6) μ0 μ' ∧ (∀ i, i < 6 → μ'.1 43 0 (6 * p + i) = μ0.1 50 0 (6 * x + i))
  | 0, k, μ, hk, f, h => by
    rw [hq_M_putsHabit_14, if_neg (show ¬ nI k < (6 : Int32) from nI_nlt (b := 6) (by omega) (by omega))]
    exact ⟨μ, rfl, f, fun i hi => h i (by omega)⟩
  | m + 1, k, μ, hk, f, h => by
    rw [hq_M_putsHabit_14, if_pos (show nI k < (6 : Int32) from nI_lt (b := 6) (by omega) (by omega)), show (6 : Int32) * nI x = nI (6 * x) from pk_mul 6 x, show (6 : Int32) * nI p = nI (6 * p) from pk_mul 6 p, nI_add, nI_add, if_pos (hx_in (by omega) (by omega)), if_pos (hx_in (by omega) (by omega)), nI_clamp (by omega), nI_clamp (by omega), nI_1, f.1 50 0 _ (by omega)]
    refine hx_pHL d hp hx m (k + 1) _ (by omega) (hx_wr f _ (by omega)) (fun i hi => ?_)
    rw [hx_rd]
    by_cases c : i = k
    · rw [if_pos ⟨rfl, by omega, rfl⟩, c]
    · rw [if_neg (by omega), h i (by omega)]
theorem hx_pH (d : Nat) {p x : Nat} (hp : p < 8) (hx : x < 9) (μ : hs_M) : ∃ μ', hc_M_putsHabit (d + 1) (nI p) (nI x) μ = some (none, μ') ∧ hx_fr (fun κ b i => b = 0 ∧ ((κ = 43 ∧ 6 * p ≤ i ∧ i < 6 * p + 6) ∨ (κ = 44 ∧ i = p))) μ μ' ∧ μ'.1 44 0 p = μ.1 51 0 x ∧ (∀ i, i < 6 → μ'.1 43 0 (6 * p + i) = μ.1 50 0 (6 * x + i)) := by
  have f0 : hx_fr (fun κ b i => b = 0 ∧ ((κ = 43 ∧ 6 * p ≤ i ∧ i < 6 * p + 6) ∨ (κ = 44 ∧ i = p))) μ (hs_wI μ 44 0 p (μ.1 51 0 x)) := hx_wr (hx_rf _ _) _ (by omega)
  obtain ⟨μ', e, f, g⟩ := hx_pHL d hp hx 6 0 (hs_wI μ 44 0 p (μ.1 51 0 x)) (by omega) (hx_rf _ _) (fun i hi => absurd hi (by omega))
  refine ⟨μ', ?_, hx_tr f0 (hx_mo (fun κ b i z => by omega) f), ?_, ?_⟩
  · rw [hq_M_putsHabit, if_pos (hx_in (by omega) (by omega)), if_pos (hx_in (by omega) (by omega)), nI_clamp (by omega), nI_clamp (by omega)]
    exact e
  · rw [f.1 44 0 p (by omega), hx_rd, if_pos ⟨rfl, rfl, rfl⟩]
  · intro i hi
    rw [g i hi, hx_rd, if_neg (by omega)]
theorem hx_comesM (d : Nat) {p x : Nat} (hp : p < 8) (hx : x < 9) (μ : hs_M) : ∃ μ', hc_M_comes (d + 2) (nI p) (nI x) μ = some (none, μ') ∧ hx_fr (fun κ b i => b = 0 ∧ ((κ = 43 ∧ 6 * p ≤ i ∧ i < 6 * p + 6) ∨ (κ = 44 ∧ i = p) ∨ (κ = 42 ∧ i = p) ∨ (κ = 45 ∧ (i = 8 + p ∨ i = 16)))) μ μ' ∧ μ'.1 42 0 p = 0 ∧ μ'.1 44 0 p = μ.1 51 0 x ∧ (∀ i, i < 6 → μ'.1 43 0 (6 * p + i) = μ.1 50 0 (6 * x + i)) ∧ μ'.1 45 0 (8 + p) = 0 ∧ μ'.1 45 0 16 = (μ.1 45 0 16 ||| ((1 : Int32) <<< (nI p &&& 31))) := by
  have f0 : hx_fr (fun κ b i => b = 0 ∧ ((κ = 42 ∧ i = p) ∨ (κ = 45 ∧ (i = 8 + p ∨ i = 16)))) μ (hs_wI (hs_wI (hs_wI μ 45 0 (8 + p) 0) 45 0 16 (μ.1 45 0 16 ||| ((1 : Int32) <<< (nI p &&& 31)))) 42 0 p 0) := hx_wr (hx_wr (hx_wr (hx_rf _ _) _ (by omega)) _ (by omega)) _ (by omega)
  obtain ⟨μ', e, f, g1, g2⟩ := hx_pH d hp hx (hs_wI (hs_wI (hs_wI μ 45 0 (8 + p) 0) 45 0 16 (μ.1 45 0 16 ||| ((1 : Int32) <<< (nI p &&& 31)))) 42 0 p 0)
  refine ⟨μ', ?_, hx_tr (hx_mo (fun κ b i z => by omega) f0) (hx_mo (fun κ b i z => by omega) f), ?_, ?_, ?_, ?_, ?_⟩
  · rw [hq_M_comes, show (8 : Int32) + nI p = nI (8 + p) from nI_add 8 p, if_pos (hx_in (by omega) (by omega)), if_pos (hx_in (by omega) (by omega)), nI_clamp (by omega), nI_clamp (by omega), hx_rd, if_neg (by omega), e, hx_bV]
  · rw [f.1 42 0 p (by omega), hx_rd, if_pos ⟨rfl, rfl, rfl⟩]
  · rw [g1, f0.1 51 0 x (by omega)]
  · intro i hi
    rw [g2 i hi, f0.1 50 0 _ (by omega)]
  · rw [f.1 45 0 _ (by omega), hx_rd, if_neg (by omega), hx_rd, if_neg (by omega), hx_rd, if_pos ⟨rfl, rfl, rfl⟩]
  · rw [f.1 45 0 _ (by omega), hx_rd, if_neg (by omega), hx_rd, if_pos ⟨rfl, rfl, rfl⟩]
