/-! ===== E: dates ===== -/
theorem hx_pval (d : Nat) {k : Nat} (hk : k < 10) (μ : hs_M) : hc_Pairs_value (d + 1) 1 (nI k) μ = some (some (vI (μ.1 34 1 k)), μ) := by
  rw [hq_Pairs_value, if_neg (nI_pos (by omega)), show Int32.ofNat (hs_len μ 34 1) = nI 10 from rfl, if_pos (nI_lt hk (by omega)), if_pos (show hs_in (nI k) (hs_len μ 34 1) = true from hx_in (n := 10) hk (by omega)), nI_clamp (by omega)]
theorem hx_pper (d : Nat) {k : Nat} (hk : k < 10) (μ : hs_M) : hc_Pairs_person (d + 1) 1 (nI k) μ = some (some (vI (μ.1 33 1 k)), μ) := by
  rw [hq_Pairs_person, if_neg (nI_pos (by omega)), show Int32.ofNat (hs_len μ 33 1) = nI 10 from rfl, if_pos (nI_lt hk (by omega)), if_pos (show hs_in (nI k) (hs_len μ 33 1) = true from hx_in (n := 10) hk (by omega)), nI_clamp (by omega)]
/-- what was told: how many, of whom, of which week -/
def hx_dC (μ : hs_M) (M : Nat) (pw wk : Nat → Nat) : Prop := μ.1 2 1 2 = nI M ∧ ∀ k, k < M → μ.1 33 1 k = nI (pw k) ∧ μ.1 34 1 k = nI (wk k)
def hx_dR (μ : hs_M) (M : Nat) (pw wk : Nat → Nat) : Prop := μ.1 12 0 37 = nI M ∧ ∀ k, k < M → μ.1 61 0 k = nI (pw k) ∧ μ.1 62 0 k = nI (wk k)
def hx_dO (P M : Nat) (pw wk : Nat → Nat) : Prop := M ≤ 10 ∧ ∀ k, k < M → pw k < P ∧ 1 ≤ wk k ∧ wk k ≤ 60
theorem hx_iDx {P : Nat} {μ : hs_M} (h8 : P ≤ 8) (h : hx_iD P μ) : ∃ M, ∃ pw wk : Nat → Nat, hx_dO P M pw wk ∧ hx_dC μ M pw wk ∧ hx_dR μ M pw wk := by
  obtain ⟨m, h1, h2, h3, h4⟩ := h
  have a : ∀ k, k < m → (μ.1 33 1 k).toNatClampNeg < P ∧ μ.1 33 1 k = nI (μ.1 33 1 k).toNatClampNeg ∧ μ.1 61 0 k = nI (μ.1 33 1 k).toNatClampNeg := by
    intro k hk
    obtain ⟨⟨p, hp, e1, e2⟩, _⟩ := h4 k hk
    rw [e1, e2, nI_clamp (by omega)]
    exact ⟨hp, rfl, rfl⟩
  have b : ∀ k, k < m → 1 ≤ (μ.1 34 1 k).toNatClampNeg ∧ (μ.1 34 1 k).toNatClampNeg ≤ 60 ∧ μ.1 34 1 k = nI (μ.1 34 1 k).toNatClampNeg ∧ μ.1 62 0 k = nI (μ.1 34 1 k).toNatClampNeg := by
    intro k hk
    obtain ⟨_, w, hw1, hw, e1, e2⟩ := h4 k hk
    rw [e1, e2, nI_clamp (by omega)]
    exact ⟨hw1, hw, rfl, rfl⟩
  exact ⟨m, fun k => (μ.1 33 1 k).toNatClampNeg, fun k => (μ.1 34 1 k).toNatClampNeg, ⟨h1, fun k hk => ⟨(a k hk).1, (b k hk).1, (b k hk).2.1⟩⟩, ⟨h2, fun k hk => ⟨(a k hk).2.1, (b k hk).2.2.1⟩⟩, ⟨h3, fun k hk => ⟨(a k hk).2.2, (b k hk).2.2.2⟩⟩⟩
def hx_mw (wk : Nat → Nat) : Nat → Nat
  | 0 => 0
  | k + 1 => max (hx_mw wk k) (wk k)
theorem hx_mwS (wk : Nat → Nat) (k : Nat) : hx_mw wk (k + 1) = max (hx_mw wk k) (wk k) := rfl
theorem hx_mwle {wk : Nat → Nat} : ∀ {M : Nat}, (∀ k, k < M → wk k ≤ 60) → hx_mw wk M ≤ 60 ∧ ∀ k, k < M → wk k ≤ hx_mw wk M
  | 0, _ => ⟨by show 0 ≤ 60; omega, fun k h => absurd h (by omega)⟩
  | M + 1, h => by
    obtain ⟨a, b⟩ := hx_mwle (wk := wk) (M := M) (fun k hk => h k (by omega))
    have := h M (by omega)
    rw [hx_mwS]
    refine ⟨by omega, ?_⟩
    intro k hk
    by_cases e : k = M
    · rw [e]
      omega
    · have := b k (by omega)
      omega
theorem hx_mxn {a b : Nat} (ha : a < 2 ^ 31) (hb : b < 2 ^ 31) : hx_mx (nI a) (nI b) = nI (max a b) := by
  unfold hx_mx
  by_cases c : a < b
  · rw [if_pos (nI_lt c hb), show max a b = b by omega]
  · rw [if_neg (nI_nlt (by omega) ha), show max a b = a by omega]
/-- in week w all is as told -/
def hx_dw (u : Int32) (pw wk : Nat → Nat) (w : Nat) : Nat → Bool
  | 0 => true
  | j + 1 => hx_dw u pw wk w j && (decide (wk j ≠ w) || decide (u = nI (pw j)))
theorem hx_dwS (u : Int32) (pw wk : Nat → Nat) (w j : Nat) : hx_dw u pw wk w (j + 1) = (hx_dw u pw wk w j && (decide (wk j ≠ w) || decide (u = nI (pw j)))) := rfl
theorem hx_dwA {u : Int32} {pw wk : Nat → Nat} {w : Nat} : ∀ {M : Nat}, hx_dw u pw wk w M = true ↔ ∀ j, j < M → wk j = w → u = nI (pw j)
  | 0 => ⟨fun _ j h => absurd h (by omega), fun _ => rfl⟩
  | M + 1 => by
    rw [hx_dwS, Bool.and_eq_true, hx_dwA (M := M), Bool.or_eq_true, decide_eq_true_iff, decide_eq_true_iff]
    constructor
    · rintro ⟨a, b⟩ j hj e
      by_cases z : j = M
      · subst z
        rcases b with b | b
        · exact absurd e b
        · exact b
      · exact a j (by omega) e
    · intro h
      refine ⟨fun j hj => h j (by omega), ?_⟩
      by_cases z : wk M = w
      · exact Or.inr (h M (by omega) z)
      · exact Or.inl z
noncomputable def hx_al (E : hx_Env) (a : Int32) (s : hx_St) (M : Nat) (pw wk : Nat → Nat) : Nat → Nat → Bool
  | 0, _ => true
  | m + 1, k => hx_dw (hx_by E a s (k + 1) 17) pw wk (k + 1) M && hx_al E a s M pw wk m (k + 1)
theorem hx_alS (E : hx_Env) (a : Int32) (s : hx_St) (M : Nat) (pw wk : Nat → Nat) (m k : Nat) : hx_al E a s M pw wk (m + 1) k = (hx_dw (hx_by E a s (k + 1) 17) pw wk (k + 1) M && hx_al E a s M pw wk m (k + 1)) := rfl
noncomputable def hx_is (E : hx_Env) (a : Int32) (s : hx_St) (M : Nat) (pw wk : Nat → Nat) : Bool := hx_al E a s M pw wk (hx_mw wk M) 0
theorem hx_alA (E : hx_Env) (a : Int32) (s : hx_St) (M : Nat) (pw wk : Nat → Nat) : ∀ (m k : Nat), hx_al E a s M pw wk m k = true → ∀ w, k < w → w ≤ k + m → hx_dw (hx_by E a s w 17) pw wk w M = true
  | 0, k, _, w, h1, h2 => absurd h1 (by omega)
  | m + 1, k, h, w, h1, h2 => by
    rw [hx_alS, Bool.and_eq_true] at h
    by_cases e : w = k + 1
    · rw [e]
      exact h.1
    · exact hx_alA E a s M pw wk m (k + 1) h.2 w (by omega) (by omega)
/-- two told of one week -/
theorem hx_conf {E : hx_Env} {a : Int32} {s : hx_St} {P M : Nat} {pw wk : Nat → Nat} (h8 : P ≤ 8) (hO : hx_dO P M pw wk) {i j : Nat} (hi : i < M) (hj : j < M) (e : wk i = wk j) (ne : pw i ≠ pw j) : hx_is E a s M pw wk = false := by
  cases h : hx_is E a s M pw wk
  · rfl
  · exfalso
    obtain ⟨b1, b2⟩ := hx_mwle (wk := wk) (M := M) (fun k hk => (hO.2 k hk).2.2)
    have := hx_alA E a s M pw wk _ 0 h (wk i) (hO.2 i hi).2.1 (by have := b2 i hi; omega)
    rw [hx_dwA] at this
    have x := this i hi rfl
    have y := this j hj e.symm
    rw [x] at y
    have p1 := (hO.2 i hi).1
    have p2 := (hO.2 j hj).1
    exact ne ((nI_eq (by omega) (by omega)).mp y)
/-! the class gathers -/
def hx_due (μ : hs_M) (pw wk : Nat → Nat) (k : Nat) : Prop := μ.1 9 0 6 = nI (hx_mw wk k) ∧ ∀ w, w ≤ 60 → (μ.1 39 0 w = -1 ∧ ∀ j, j < k → wk j ≠ w) ∨ (∃ p, p < 8 ∧ μ.1 39 0 w = nI p ∧ (∃ j, j < k ∧ wk j = w) ∧ ∀ j, j < k → wk j = w → pw j = p)
def hx_xDu (κ b i : Nat) : Prop := (κ = 9 ∧ b = 0 ∧ i = 6) ∨ κ = 39
theorem hx_gaF (d : Nat) {μ0 : hs_M} : ∀ (m k : Nat) (μ : hs_M), k + m = 61 → hx_fr hx_xDu μ0 μ → μ.1 9 0 6 = 0 → (∀ i, i < k → μ.1 39 0 i = -1) → ∃ μ', he_Trials_gather_7 d 1 (nI k) μ = he_Trials_gather_28 d 1 0 μ' ∧ hx_fr hx_xDu μ0 μ' ∧ μ'.1 9 0 6 = 0 ∧ (∀ i, i ≤ 60 → μ'.1 39 0 i = -1)
  | 0, k, μ, hk, f, h9, h => by
    rw [hq_Trials_gather_7, if_pos (show (60 : Int32) < nI k from nI_lt (a := 60) (by omega) (by omega))]
    exact ⟨μ, rfl, f, h9, fun i hi => h i (by omega)⟩
  | m + 1, k, μ, hk, f, h9, h => by
    rw [hq_Trials_gather_7, if_neg (show ¬ (60 : Int32) < nI k from nI_nlt (a := 60) (by omega) (by omega)), if_pos (hx_in (by omega) (by omega)), nI_clamp (by omega), nI_1]
    apply hx_gaF d m (k + 1) _ (by omega) (hx_wr f _ (Or.inr rfl))
    · rw [hx_rd, if_neg (by omega), h9]
    · intro i hi
      rw [hx_rd]
      by_cases c : i = k
      · rw [if_pos ⟨rfl, c, rfl⟩]
      · rw [if_neg (by omega), h i (by omega)]
theorem hx_gaL (d : Nat) {P M : Nat} (h8 : P ≤ 8) {pw wk : Nat → Nat} (hO : hx_dO P M pw wk) {μ0 : hs_M} (hC : hx_dC μ0 M pw wk) : ∀ (m k : Nat) (μ : hs_M), k + m = M → hx_fr hx_xDu μ0 μ → hx_due μ pw wk k → ∃ μ', ∃ b : Bool, he_Trials_gather_28 (d + 1) 1 (nI k) μ = some (some (vI (hx_tn b)), μ') ∧ hx_fr hx_xDu μ0 μ' ∧ (b = true → hx_due μ' pw wk M) ∧ (b = false → ∃ i j, i < M ∧ j < M ∧ wk i = wk j ∧ pw i ≠ pw j)
  | 0, k, μ, hk, f, h => by
    have := hO.1
    rw [hq_Trials_gather_28, f.1 2 1 2 (by unfold hx_xDu; omega), hC.1, if_neg (nI_nlt (by omega) (by omega)), hx_rz1]
    rw [show k = M from hk] at h
    exact ⟨μ, true, rfl, f, fun _ => h, fun z => by cases z⟩
  | m + 1, k, μ, hk, f, h => by
    have h10 := hO.1
    obtain ⟨hp, hw1, hw⟩ := hO.2 k (by omega)
    obtain ⟨c1, c2⟩ := hC.2 k (by omega)
    obtain ⟨b1, b2⟩ := hx_mwle (wk := wk) (M := k) (fun j hj => (hO.2 j (by omega)).2.2)
    rw [hq_Trials_gather_28, f.1 2 1 2 (by unfold hx_xDu; omega), hC.1, if_pos (nI_lt (by omega) (by omega)), hx_pval _ (by omega), hx_bI, hx_pper _ (by omega), hx_bI, f.1 34 1 k (by unfold hx_xDu; omega), f.1 33 1 k (by unfold hx_xDu; omega), c1, c2, if_neg (nI_pos (by omega)), if_neg (show ¬ (60 : Int32) < nI (wk k) from nI_nlt (a := 60) (by omega) (by omega)), if_pos (hx_in (by omega) (by omega)), nI_clamp (by omega), if_pos (hx_in (by omega) (by omega)), hq_Trials_gather_82, hq_Trials_gather_80, if_pos (hx_in (by omega) (by omega)), nI_clamp (by omega), hx_max, hx_bI, h.1, hx_mxn (by omega) (by omega), ← hx_mwS, nI_1]
    have go : (∀ j, j < k → wk j = wk k → pw j = pw k) → ∃ μ', ∃ b : Bool, he_Trials_gather_28 (d + 1) 1 (nI (k + 1)) (hs_wI (hs_wI μ 39 0 (wk k) (nI (pw k))) 9 0 6 (nI (hx_mw wk (k + 1)))) = some (some (vI (hx_tn b)), μ') ∧ hx_fr hx_xDu μ0 μ' ∧ (b = true → hx_due μ' pw wk M) ∧ (b = false → ∃ i j, i < M ∧ j < M ∧ wk i = wk j ∧ pw i ≠ pw j) := by
      intro ha
      apply hx_gaL d h8 hO hC m (k + 1) _ (by omega) (hx_wr (hx_wr f _ (Or.inr rfl)) _ (Or.inl ⟨rfl, rfl, rfl⟩))
      refine ⟨by rw [hx_rd, if_pos ⟨rfl, rfl, rfl⟩], ?_⟩
      intro w hw60
      rw [hx_rd, if_neg (by omega), hx_rd]
      by_cases e : w = wk k
      · rw [if_pos ⟨rfl, e, rfl⟩]
        right
        refine ⟨pw k, by omega, rfl, ⟨k, by omega, e.symm⟩, ?_⟩
        intro j hj ej
        by_cases z : j = k
        · rw [z]
        · exact ha j (by omega) (ej.trans e)
      · rw [if_neg (by omega)]
        rcases h.2 w hw60 with ⟨x1, x2⟩ | ⟨p, x0, x1, ⟨j, x2, x3⟩, x4⟩
        · left
          refine ⟨x1, ?_⟩
          intro j hj
          by_cases z : j = k
          · rw [z]
            exact fun y => e y.symm
          · exact x2 j (by omega)
        · right
          refine ⟨p, x0, x1, ⟨j, by omega, x3⟩, ?_⟩
          intro i hi ei
          by_cases z : i = k
          · rw [z] at ei
            exact absurd ei.symm e
          · exact x4 i (by omega) ei
    rcases h.2 (wk k) (by omega) with ⟨x1, x2⟩ | ⟨p, x0, x1, ⟨j, x2, x3⟩, x4⟩
    · rw [if_pos x1]
      exact go (fun j hj e => absurd e (x2 j hj))
    · have ne : nI p ≠ (-1 : Int32) := by
        intro z
        have := nI_pos (n := p) (by omega)
        rw [z] at this
        exact this hx_m1
      rw [x1, if_neg ne]
      by_cases e : p = pw k
      · rw [if_pos (by rw [e])]
        exact go (fun i hi ei => (x4 i hi ei).trans e)
      · rw [if_neg (by rw [nI_eq (by omega) (by omega)]; exact e), hx_rz0]
        refine ⟨μ, false, rfl, f, (fun z => by cases z), fun _ => ⟨j, k, by omega, by omega, x3, ?_⟩⟩
        rw [x4 j x2 x3]
        exact e
theorem hx_gather (d : Nat) {P M : Nat} (h8 : P ≤ 8) {pw wk : Nat → Nat} (hO : hx_dO P M pw wk) {μ : hs_M} (hC : hx_dC μ M pw wk) : ∃ μ', ∃ b : Bool, hc_Trials_gather (d + 2) 1 μ = some (some (vI (hx_tn b)), μ') ∧ hx_fr hx_xDu μ μ' ∧ (b = true → hx_due μ' pw wk M) ∧ (b = false → ∃ i j, i < M ∧ j < M ∧ wk i = wk j ∧ pw i ≠ pw j) := by
  obtain ⟨μ1, e1, f1, g1, g2⟩ := hx_gaF (d + 1) (μ0 := μ) 61 0 (hs_wI μ 9 0 6 0) (by omega) (hx_wr (hx_rf _ _) _ (Or.inl ⟨rfl, rfl, rfl⟩)) (by rw [hx_rd, if_pos ⟨rfl, rfl, rfl⟩]) (fun i hi => absurd hi (by omega))
  obtain ⟨μ2, b, e2, f2, g3, g4⟩ := hx_gaL d h8 hO hC M 0 μ1 (by omega) f1 ⟨g1, fun w hw => Or.inl ⟨g2 w hw, fun j hj => absurd hj (by omega)⟩⟩
  rw [hq_Trials_gather, show he_Trials_gather_7 (d + 1) 1 0 (hs_wI μ 9 0 6 0) = he_Trials_gather_7 (d + 1) 1 (nI 0) (hs_wI μ 9 0 6 0) from rfl, e1, show he_Trials_gather_28 (d + 1) 1 0 μ1 = he_Trials_gather_28 (d + 1) 1 (nI 0) μ1 from rfl, e2]
  exact ⟨μ2, b, rfl, f2, g3, g4⟩
theorem hx_dueS {μ μ' : hs_M} (f : hx_fr (hx_xS 36) μ μ') {pw wk : Nat → Nat} {k : Nat} (h : hx_due μ pw wk k) : hx_due μ' pw wk k := by
  unfold hx_due at *
  rw [f.1 9 0 6 (by unfold hx_xS; omega)]
  refine ⟨h.1, ?_⟩
  intro w hw
  rw [f.1 39 0 w (by unfold hx_xS; omega)]
  exact h.2 w hw
theorem hx_comL (d : Nat) {E : hx_Env} {W : Nat} {s : hx_St} (ht : hx_tw (hx_P E) W s) (hW : W + 60 < 2 ^ 30) (a : Int32) {M : Nat} {pw wk : Nat → Nat} (hO : hx_dO (hx_P E) M pw wk) : ∀ (m k : Nat) (μ : hs_M), k + m = hx_mw wk M → hx_EC μ E → hx_SC μ 36 (hx_by E a s k) → hx_due μ pw wk M → ∃ μ', he_Trials_comesAsDue_2 (d + 4) a (nI (k + 1)) μ = some (some (vI (hx_tn (hx_al E a s M pw wk m k))), μ') ∧ hx_fr (hx_xS 36) μ μ'
  | 0, k, μ, hk, hE, hs, hd => by
    obtain ⟨b1, _⟩ := hx_mwle (wk := wk) (M := M) (fun k hk => (hO.2 k hk).2.2)
    rw [hq_Trials_comesAsDue_2, hd.1, if_pos (nI_lt (by omega) (by omega)), hq_Trials_comesAsDue_63, hx_rz1]
    exact ⟨μ, rfl, hx_rf _ _⟩
  | m + 1, k, μ, hk, hE, hs, hd => by
    have h8 := hE.1.1
    obtain ⟨b1, _⟩ := hx_mwle (wk := wk) (M := M) (fun k hk => (hO.2 k hk).2.2)
    obtain ⟨μ1, e1, f1, s1, _⟩ := hx_pass d hE (by omega) (hx_bytw h8 a ht k (by omega)) hs 0 a
    rw [← hx_byS] at s1
    have d1 := hx_dueS f1 hd
    obtain ⟨μ2, e2, f2⟩ := hx_comL d ht hW a hO m (k + 1) μ1 (by omega) (hx_ECS f1 hE) s1 d1
    rw [hq_Trials_comesAsDue_2, hd.1, if_neg (nI_nlt (by omega) (by omega)), if_neg (show ¬ (60 : Int32) < nI (k + 1) from nI_nlt (a := 60) (by omega) (by omega)), e1, hx_bV, if_pos (hx_in (by omega) (by omega)), nI_clamp (by omega), if_pos (hx_in (by omega) (by omega)), hq_Trials_comesAsDue_57, nI_1, s1.2.2.2.1, hx_alS]
    rcases d1.2 (k + 1) (by omega) with ⟨x1, x2⟩ | ⟨p, x0, x1, ⟨j, x2, x3⟩, x4⟩
    · have : hx_dw (hx_by E a s (k + 1) 17) pw wk (k + 1) M = true := hx_dwA.mpr (fun j hj e => absurd e (x2 j hj))
      rw [if_pos x1, this, Bool.true_and]
      exact ⟨μ2, e2, hx_tr f1 f2⟩
    · have ne : nI p ≠ (-1 : Int32) := by
        intro z
        have := nI_pos (n := p) (by omega)
        rw [z] at this
        exact this hx_m1
      rw [x1, if_neg ne]
      by_cases c : nI p = hx_by E a s (k + 1) 17
      · have : hx_dw (hx_by E a s (k + 1) 17) pw wk (k + 1) M = true := hx_dwA.mpr (fun j hj e => by rw [x4 j hj e, c])
        rw [if_pos c, this, Bool.true_and]
        exact ⟨μ2, e2, hx_tr f1 f2⟩
      · have : hx_dw (hx_by E a s (k + 1) 17) pw wk (k + 1) M = false := by
          cases z : hx_dw (hx_by E a s (k + 1) 17) pw wk (k + 1) M
          · rfl
          · exfalso
            have := hx_dwA.mp z j x2 x3
            rw [x4 j x2 x3] at this
            exact c this.symm
        rw [if_neg c, this, Bool.false_and, hx_rz0]
        exact ⟨μ1, rfl, f1⟩
theorem hx_comes (d : Nat) {μ : hs_M} {E : hx_Env} (hE : hx_EC μ E) {W : Nat} {s : hx_St} (ht : hx_tw (hx_P E) W s) (hW : W + 60 < 2 ^ 30) (a : Int32) {M : Nat} {pw wk : Nat → Nat} (hO : hx_dO (hx_P E) M pw wk) (hs : hx_SC μ 36 s) (hd : hx_due μ pw wk M) : ∃ μ', hc_Trials_comesAsDue (d + 5) a μ = some (some (vI (hx_tn (hx_is E a s M pw wk))), μ') ∧ hx_fr (hx_xS 36) μ μ' := by
  rw [hq_Trials_comesAsDue]
  exact hx_comL d ht hW a hO (hx_mw wk M) 0 μ (by omega) hE hs hd
/-! the reference -/
theorem hx_isM (d : Nat) {μ : hs_M} {M : Nat} (hM : M ≤ 10) {pw wk : Nat → Nat} (hw : ∀ k, k < M → wk k ≤ 60) (hR : hx_dR μ M pw wk) (v : Int32) : ∀ (m k : Nat), k + m = M → he_M_isSo_4 (d + 1) v (nI (hx_mw wk k)) (nI k) μ = he_M_isSo_31 (d + 1) v (nI (hx_mw wk M)) 1 μ
  | 0, k, hk => by
    rw [hq_M_isSo_4, hR.1, if_neg (nI_nlt (by omega) (by omega)), show k = M from hk]
  | m + 1, k, hk => by
    obtain ⟨b1, _⟩ := hx_mwle (wk := wk) (M := k) (fun j hj => hw j (by omega))
    have := hw k (by omega)
    have ih := hx_isM d hM hw hR v m (k + 1) (by omega)
    rw [hq_M_isSo_4, hR.1, if_pos (nI_lt (by omega) (by omega)), if_pos (hx_in (by omega) (by omega)), nI_clamp (by omega), (hR.2 k (by omega)).2, hx_max, hx_bI, hx_mxn (by omega) (by omega), ← hx_mwS, nI_1]
    exact ih
theorem hx_isW (d : Nat) {μ : hs_M} {P M : Nat} (h8 : P ≤ 8) {pw wk : Nat → Nat} (hO : hx_dO P M pw wk) (hR : hx_dR μ M pw wk) (v l : Int32) {u : Int32} (hu : μ.1 46 0 17 = u) {w : Nat} (hw : w ≤ 60) : ∀ (m k : Nat), k + m = M → hx_dw u pw wk w k = true → he_M_isSo_45 d v l (nI w) (nI k) μ = if hx_dw u pw wk w M = true then he_M_isSo_31 d v l (nI (w + 1)) μ else some (some (vI 0), μ)
  | 0, k, hk, h => by
    have := hO.1
    rw [show k = M from hk] at h ⊢
    rw [hq_M_isSo_45, hR.1, if_neg (nI_nlt (by omega) (by omega)), nI_1, if_pos h]
  | m + 1, k, hk, h => by
    have h10 := hO.1
    obtain ⟨hp, hw1, hw2⟩ := hO.2 k (by omega)
    have ih := hx_isW d h8 hO hR v l hu hw m (k + 1) (by omega)
    rw [hx_dwS, h, Bool.true_and] at ih
    rw [hq_M_isSo_45, hR.1, if_pos (nI_lt (by omega) (by omega)), if_pos (hx_in (by omega) (by omega)), nI_clamp (by omega), (hR.2 k (by omega)).2, (hR.2 k (by omega)).1, if_pos (hx_in (by omega) (by omega)), hu, hq_M_isSo_84, nI_1]
    by_cases c : wk k = w
    · rw [if_pos (by rw [c])]
      by_cases c2 : u = nI (pw k)
      · rw [if_pos c2]
        exact ih (by rw [decide_eq_true c2, Bool.or_true])
      · rw [if_neg c2, hx_rz0, if_neg]
        intro z
        exact c2 (hx_dwA.mp z k (by omega) c)
    · rw [if_neg (by rw [nI_eq (by omega) (by omega)]; exact c)]
      exact ih (by rw [decide_eq_true c, Bool.true_or])
theorem hx_dRN {μ μ' : hs_M} (f : hx_fr hx_yN μ μ') {M : Nat} {pw wk : Nat → Nat} (h : hx_dR μ M pw wk) : hx_dR μ' M pw wk := by
  refine ⟨by rw [f.1 12 0 37 (by unfold hx_yN; omega)]; exact h.1, fun k hk => ?_⟩
  rw [f.1 61 0 k (by unfold hx_yN; omega), f.1 62 0 k (by unfold hx_yN; omega)]
  exact h.2 k hk
theorem hx_isL (d : Nat) {E : hx_Env} {W : Nat} {t0 s : hx_St} (ht : hx_tw (hx_P E) W s) (hW : W + 60 < 2 ^ 30) {a v : Int32} (hv : hx_nv (hx_P E) a v) {M : Nat} {pw wk : Nat → Nat} (hO : hx_dO (hx_P E) M pw wk) : ∀ (m k : Nat) (μ : hs_M), k + m = hx_mw wk M → hx_ER μ E → hx_SR μ 46 0 (hx_by E a s k) → hx_sf μ t0 (hx_by E a s k) → hx_dR μ M pw wk → ∃ μ', he_M_isSo_31 (d + 6) v (nI (hx_mw wk M)) (nI (k + 1)) μ = some (some (vI (hx_tn (hx_al E a s M pw wk m k))), μ') ∧ hx_fr hx_yN μ μ'
  | 0, k, μ, hk, hE, hs, h0, hR => by
    obtain ⟨b1, _⟩ := hx_mwle (wk := wk) (M := M) (fun k hk => (hO.2 k hk).2.2)
    rw [hq_M_isSo_31, if_pos (nI_lt (by omega) (by omega)), hx_rz1]
    exact ⟨μ, rfl, hx_rf _ _⟩
  | m + 1, k, μ, hk, hE, hs, h0, hR => by
    have h8 := hE.1.1
    obtain ⟨b1, _⟩ := hx_mwle (wk := wk) (M := M) (fun k hk => (hO.2 k hk).2.2)
    obtain ⟨μ1, e1, f1, s1, g1⟩ := hx_goBy d hE hv (hx_bytw h8 a ht k (by omega)) hs h0 (n := 1) (by omega)
    have e : hx_by E a (hx_by E a s k) 1 = hx_by E a s (k + 1) := rfl
    rw [e] at s1 g1
    have R1 := hx_dRN f1 hR
    obtain ⟨μ2, e2, f2⟩ := hx_isL d ht hW hv hO m (k + 1) μ1 (by omega) (hx_ERN f1 hE) s1 g1 R1
    rw [hq_M_isSo_31, if_neg (nI_nlt (by omega) (by omega)), show hc_M_goesBy (d + 6) 1 v μ = hc_M_goesBy (d + 6) (nI 1) v μ from rfl, e1, hx_bV, show he_M_isSo_45 (d + 6) v (nI (hx_mw wk M)) (nI (k + 1)) 0 μ1 = he_M_isSo_45 (d + 6) v (nI (hx_mw wk M)) (nI (k + 1)) (nI 0) μ1 from rfl, hx_isW _ h8 hO R1 _ _ (u := hx_by E a s (k + 1) 17) (hx_SR0 s1 (by omega)) (by omega) M 0 (by omega) rfl, hx_alS]
    by_cases c : hx_dw (hx_by E a s (k + 1) 17) pw wk (k + 1) M = true
    · rw [if_pos c, e2, c, Bool.true_and]
      exact ⟨μ2, rfl, hx_tr f1 f2⟩
    · rw [if_neg c]
      rw [Bool.not_eq_true] at c
      rw [c, Bool.false_and]
      exact ⟨μ1, rfl, f1⟩
theorem hx_isSo (d : Nat) {μ : hs_M} {E : hx_Env} (hE : hx_ER μ E) {W : Nat} {t0 s : hx_St} (ht : hx_tw (hx_P E) W s) (hW : W + 60 < 2 ^ 30) {a v : Int32} (hv : hx_nv (hx_P E) a v) {M : Nat} {pw wk : Nat → Nat} (hO : hx_dO (hx_P E) M pw wk) (hs : hx_SR μ 46 0 s) (h0 : hx_sf μ t0 s) (hR : hx_dR μ M pw wk) : ∃ μ', hc_M_isSo (d + 7) v μ = some (some (vI (hx_tn (hx_is E a s M pw wk))), μ') ∧ hx_fr hx_yN μ μ' := by
  rw [hq_M_isSo, show he_M_isSo_4 (d + 6) v 0 0 μ = he_M_isSo_4 (d + 6) v (nI (hx_mw wk 0)) (nI 0) μ from rfl, hx_isM _ hO.1 (fun k hk => (hO.2 k hk).2.2) hR v M 0 (by omega)]
  exact hx_isL d ht hW hv hO (hx_mw wk M) 0 μ (by omega) hE hs h0 hR
