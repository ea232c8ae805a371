/-! ===== E: what holds between calls ===== -/
def hx_iT (μ : hs_M) : Prop := ∃ l, l ≤ 80 ∧ μ.1 7 0 1 = nI l ∧ μ.1 12 0 13 = nI l ∧ ∀ i, i < l → ∃ c, c < 256 ∧ μ.1 13 0 i = nI c ∧ μ.1 47 0 i = nI c
def hx_iR (μ : hs_M) : Prop := ∃ l, hx_rwC μ l ∧ hx_rwR μ l
def hx_iP (P W : Nat) (μ : hs_M) : Prop := ∃ s f, ∃ u : Nat → hx_St, s ≤ 20 ∧ f < 20 ∧ μ.1 3 0 4 = nI s ∧ μ.1 3 0 3 = nI f ∧ μ.1 12 0 28 = nI s ∧ ∀ k, k < s → hx_SF μ (1 + (f + k) % 20) (u k) ∧ hx_SR μ 55 (117 * k) (u k) ∧ hx_tw P W (u k)
def hx_iK (P W : Nat) (μ : hs_M) : Prop := ∀ i, i < 3 → (μ.1 66 0 i = 0 ∧ μ.1 32 0 i = -1) ∨ (μ.1 66 0 i = 1 ∧ ∃ q, ∃ v : hx_St, q ≤ P ∧ μ.1 32 0 i = nI q ∧ μ.1 67 0 i = nI q ∧ hx_SF μ (21 + i) v ∧ hx_SR μ 68 (117 * i) v ∧ hx_tw q W v)
def hx_iW (P : Nat) (μ : hs_M) : Prop := ∃ m, m ≤ 12 ∧ μ.1 2 0 2 = nI m ∧ μ.1 12 0 34 = nI m ∧ ∀ k, k < m → (∃ p, p < P ∧ μ.1 33 0 k = nI p ∧ μ.1 59 0 k = nI p) ∧ (∃ v, v ≤ 1010 ∧ μ.1 34 0 k = nI v ∧ μ.1 60 0 k = nI v)
def hx_iD (P : Nat) (μ : hs_M) : Prop := ∃ m, m ≤ 10 ∧ μ.1 2 1 2 = nI m ∧ μ.1 12 0 37 = nI m ∧ ∀ k, k < m → (∃ p, p < P ∧ μ.1 33 1 k = nI p ∧ μ.1 61 0 k = nI p) ∧ (∃ w, 1 ≤ w ∧ w ≤ 60 ∧ μ.1 34 1 k = nI w ∧ μ.1 62 0 k = nI w)
def hx_I (n : Nat) (E : hx_Env) (t : hx_St) (μ : hs_M) : Prop := hx_EC μ E ∧ hx_ER μ E ∧ hx_SF μ 0 t ∧ hx_SR μ 45 0 t ∧ hx_tw (hx_P E) (100 * n) t ∧ hx_iT μ ∧ hx_iR μ ∧ hx_iP (hx_P E) (100 * n) μ ∧ hx_iK (hx_P E) (100 * n) μ ∧ hx_iW (hx_P E) μ ∧ hx_iD (hx_P E) μ
def hx_fT (κ _j i : Nat) : Prop := (κ = 7 ∧ i = 1) ∨ κ = 13 ∨ (κ = 12 ∧ i = 13) ∨ κ = 47
def hx_fP (κ j i : Nat) : Prop := κ = 3 ∨ ((κ = 6 ∨ (24 ≤ κ ∧ κ ≤ 29)) ∧ 1 ≤ j ∧ j ≤ 20) ∨ (κ = 12 ∧ i = 28) ∨ κ = 55
def hx_fK (κ j _i : Nat) : Prop := κ = 32 ∨ ((κ = 6 ∨ (24 ≤ κ ∧ κ ≤ 29)) ∧ 21 ≤ j ∧ j ≤ 23) ∨ (66 ≤ κ ∧ κ ≤ 68)
def hx_fW (κ j i : Nat) : Prop := (κ = 2 ∧ j = 0) ∨ ((κ = 33 ∨ κ = 34) ∧ j = 0) ∨ (κ = 12 ∧ i = 34) ∨ κ = 59 ∨ κ = 60
def hx_fD (κ j i : Nat) : Prop := (κ = 2 ∧ j = 1) ∨ ((κ = 33 ∨ κ = 34) ∧ j = 1) ∨ (κ = 12 ∧ i = 37) ∨ κ = 61 ∨ κ = 62
section
variable {X : Nat → Nat → Nat → Prop} {μ μ' : hs_M}
theorem hx_iTf (f : hx_fr X μ μ') (hX : ∀ κ j i, hx_fT κ j i → ¬ X κ j i) (h : hx_iT μ) : hx_iT μ' := by
  obtain ⟨l, h1, h2, h3, h4⟩ := h
  refine ⟨l, h1, ?_, ?_, ?_⟩
  · rw [f.1 7 0 1 (hX _ _ _ (by unfold hx_fT; omega)), h2]
  · rw [f.1 12 0 13 (hX _ _ _ (by unfold hx_fT; omega)), h3]
  · intro i hi
    rw [f.1 13 0 i (hX _ _ _ (by unfold hx_fT; omega)), f.1 47 0 i (hX _ _ _ (by unfold hx_fT; omega))]
    exact h4 i hi
theorem hx_twm {P W W' : Nat} {t : hx_St} (h : hx_tw P W t) (hW : W ≤ W') : hx_tw P W' t := by
  obtain ⟨h1, ⟨n, h2, h3⟩, h4⟩ := h
  exact ⟨h1, ⟨n, by omega, h3⟩, h4⟩
theorem hx_iPf {P W W' : Nat} (f : hx_fr X μ μ') (hX : ∀ κ j i, hx_fP κ j i → ¬ X κ j i) (hW : W ≤ W') (h : hx_iP P W μ) : hx_iP P W' μ' := by
  obtain ⟨s, b, u, h1, h2, h3, h4, h5, h6⟩ := h
  refine ⟨s, b, u, h1, h2, ?_, ?_, ?_, ?_⟩
  · rw [f.1 3 0 4 (hX _ _ _ (by unfold hx_fP; omega)), h3]
  · rw [f.1 3 0 3 (hX _ _ _ (by unfold hx_fP; omega)), h4]
  · rw [f.1 12 0 28 (hX _ _ _ (by unfold hx_fP; omega)), h5]
  · intro k hk
    obtain ⟨a, b, c⟩ := h6 k hk
    refine ⟨hx_SFf f (fun κ i x => hX _ _ _ ?_) a, hx_SRf f (fun i x => hX _ _ _ ?_) b, hx_twm c hW⟩
    · have := Nat.mod_lt (‹Nat› + k) (show 20 > 0 by omega)
      unfold hx_fP
      omega
    · unfold hx_fP
      omega
theorem hx_iKf {P W W' : Nat} (f : hx_fr X μ μ') (hX : ∀ κ j i, hx_fK κ j i → ¬ X κ j i) (hW : W ≤ W') (h : hx_iK P W μ) : hx_iK P W' μ' := by
  intro i hi
  have e : ∀ κ, κ = 32 ∨ (66 ≤ κ ∧ κ ≤ 68) → μ'.1 κ 0 i = μ.1 κ 0 i := fun κ x => f.1 κ 0 i (hX _ _ _ (by unfold hx_fK; omega))
  rw [e 66 (by omega), e 32 (by omega), e 67 (by omega)]
  rcases h i hi with a | ⟨a, q, v, b1, b2, b3, b4, b5, b6⟩
  · exact Or.inl a
  · refine Or.inr ⟨a, q, v, b1, b2, b3, hx_SFf f (fun κ i x => hX _ _ _ ?_) b4, hx_SRf f (fun i x => hX _ _ _ ?_) b5, hx_twm b6 hW⟩
    · unfold hx_fK
      omega
    · unfold hx_fK
      omega
theorem hx_iWf {P : Nat} (f : hx_fr X μ μ') (hX : ∀ κ j i, hx_fW κ j i → ¬ X κ j i) (h : hx_iW P μ) : hx_iW P μ' := by
  obtain ⟨m, h1, h2, h3, h4⟩ := h
  refine ⟨m, h1, ?_, ?_, ?_⟩
  · rw [f.1 2 0 2 (hX _ _ _ (by unfold hx_fW; omega)), h2]
  · rw [f.1 12 0 34 (hX _ _ _ (by unfold hx_fW; omega)), h3]
  · intro i hi
    rw [f.1 33 0 i (hX _ _ _ (by unfold hx_fW; omega)), f.1 34 0 i (hX _ _ _ (by unfold hx_fW; omega)), f.1 59 0 i (hX _ _ _ (by unfold hx_fW; omega)), f.1 60 0 i (hX _ _ _ (by unfold hx_fW; omega))]
    exact h4 i hi
theorem hx_iDf {P : Nat} (f : hx_fr X μ μ') (hX : ∀ κ j i, hx_fD κ j i → ¬ X κ j i) (h : hx_iD P μ) : hx_iD P μ' := by
  obtain ⟨m, h1, h2, h3, h4⟩ := h
  refine ⟨m, h1, ?_, ?_, ?_⟩
  · rw [f.1 2 1 2 (hX _ _ _ (by unfold hx_fD; omega)), h2]
  · rw [f.1 12 0 37 (hX _ _ _ (by unfold hx_fD; omega)), h3]
  · intro i hi
    rw [f.1 33 1 i (hX _ _ _ (by unfold hx_fD; omega)), f.1 34 1 i (hX _ _ _ (by unfold hx_fD; omega)), f.1 61 0 i (hX _ _ _ (by unfold hx_fD; omega)), f.1 62 0 i (hX _ _ _ (by unfold hx_fD; omega))]
    exact h4 i hi
end
/-- cells that nothing keeps: of the class, of the reference -/
def hx_qC (κ j i : Nat) : Prop := κ = 0 ∨ κ = 9 ∨ κ = 23 ∨ (36 ≤ κ ∧ κ ≤ 39) ∨ ((κ = 6 ∨ (24 ≤ κ ∧ κ ≤ 29)) ∧ 24 ≤ j) ∨ (κ = 5 ∧ 2 ≤ i) ∨ (κ = 7 ∧ i = 2) ∨ (κ = 8 ∧ i < 9) ∨ κ = 19 ∨ κ = 20 ∨ κ = 22 ∨ (κ = 10 ∧ 4 ≤ i)
def hx_qR (κ _j i : Nat) : Prop := κ = 46 ∨ (48 ≤ κ ∧ κ ≤ 51) ∨ κ = 53 ∨ κ = 54 ∨ κ = 56 ∨ κ = 57 ∨ κ = 58 ∨ (63 ≤ κ ∧ κ ≤ 65) ∨ (κ = 12 ∧ (i = 0 ∨ i = 14 ∨ i = 15 ∨ i = 16 ∨ i = 21 ∨ i = 25 ∨ i = 27 ∨ i = 31))
def hx_qX (κ j i : Nat) : Prop := hx_qC κ j i ∨ (κ = 4 ∧ i = 1) ∨ κ = 14
def hx_qY (κ j i : Nat) : Prop := hx_qR κ j i ∨ (κ = 12 ∧ i = 1) ∨ κ = 40
/-- all but the row stays -/
def hx_I' (n : Nat) (E : hx_Env) (t : hx_St) (μ : hs_M) : Prop := hx_EC μ E ∧ hx_ER μ E ∧ hx_SF μ 0 t ∧ hx_SR μ 45 0 t ∧ hx_tw (hx_P E) (100 * n) t ∧ hx_iT μ ∧ hx_iP (hx_P E) (100 * n) μ ∧ hx_iK (hx_P E) (100 * n) μ ∧ hx_iW (hx_P E) μ ∧ hx_iD (hx_P E) μ
theorem hx_Ia {n : Nat} {E : hx_Env} {t : hx_St} {μ : hs_M} (h : hx_I n E t μ) : hx_I' n E t μ := by
  obtain ⟨a, b, c, d, e, f, g, i⟩ := h
  exact ⟨a, b, c, d, e, f, i⟩
theorem hx_Ib {n : Nat} {E : hx_Env} {t : hx_St} {μ : hs_M} (h : hx_I' n E t μ) (g : hx_iR μ) : hx_I n E t μ := by
  obtain ⟨a, b, c, d, e, f, i⟩ := h
  exact ⟨a, b, c, d, e, f, g, i⟩
theorem hx_Iw {X : Nat → Nat → Nat → Prop} {n m : Nat} {E : hx_Env} {t : hx_St} {μ μ' : hs_M} (h : hx_I' n E t μ) (f : hx_fr X μ μ') (hX : ∀ κ j i, X κ j i → hx_qX κ j i ∨ hx_qY κ j i) (hm : n ≤ m) : hx_I' m E t μ' := by
  obtain ⟨a, b, c, d, e, g, h1, h2, h3, h4⟩ := h
  have w : 100 * n ≤ 100 * m := by omega
  refine ⟨hx_ECf f ?_ a, hx_ERf f ?_ b, hx_SFf f ?_ c, hx_SRf f ?_ d, hx_twm e w, hx_iTf f ?_ g, hx_iPf f ?_ w h1, hx_iKf f ?_ w h2, hx_iWf f ?_ h3, hx_iDf f ?_ h4⟩
  · intro κ i x y
    have := hX _ _ _ y
    unfold hx_cF at x
    unfold hx_qX hx_qY hx_qC hx_qR at this
    omega
  · intro κ i x y
    have := hX _ _ _ y
    unfold hx_rF at x
    unfold hx_qX hx_qY hx_qC hx_qR at this
    omega
  · intro κ i x y
    have := hX _ _ _ y
    unfold hx_qX hx_qY hx_qC hx_qR at this
    omega
  · intro i x y
    have := hX _ _ _ y
    unfold hx_qX hx_qY hx_qC hx_qR at this
    omega
  · intro κ j i x y
    have := hX _ _ _ y
    unfold hx_fT at x
    unfold hx_qX hx_qY hx_qC hx_qR at this
    omega
  · intro κ j i x y
    have := hX _ _ _ y
    unfold hx_fP at x
    unfold hx_qX hx_qY hx_qC hx_qR at this
    omega
  · intro κ j i x y
    have := hX _ _ _ y
    unfold hx_fK at x
    unfold hx_qX hx_qY hx_qC hx_qR at this
    omega
  · intro κ j i x y
    have := hX _ _ _ y
    unfold hx_fW at x
    unfold hx_qX hx_qY hx_qC hx_qR at this
    omega
  · intro κ j i x y
    have := hX _ _ _ y
    unfold hx_fD at x
    unfold hx_qX hx_qY hx_qC hx_qR at this
    omega
theorem hx_Im {n m : Nat} {E : hx_Env} {t : hx_St} {μ : hs_M} (h : hx_I n E t μ) (hm : n ≤ m) : hx_I m E t μ := hx_Ib (hx_Iw (X := fun _ _ _ => False) (hx_Ia h) ⟨fun _ _ _ _ => rfl, fun _ _ _ _ => rfl⟩ (fun _ _ _ x => x.elim) hm) h.2.2.2.2.2.2.1
/-- a question that leaves the row -/
theorem hx_Iq0 {n : Nat} {E : hx_Env} {t : hx_St} {μ μ1 μ2 : hs_M} (h : hx_I n E t μ) (f1 : hx_fr hx_qC μ μ1) (f2 : hx_fr hx_qR μ1 μ2) : hx_I (n + 1) E t μ2 := by
  obtain ⟨l, r1, r2⟩ := h.2.2.2.2.2.2.1
  have h1 := hx_Iw (hx_Iw (hx_Ia h) f1 (fun _ _ _ x => Or.inl (Or.inl x)) (Nat.le_refl n)) f2 (fun _ _ _ x => Or.inr (Or.inl x)) (show n ≤ n + 1 by omega)
  refine hx_Ib h1 ⟨l, hx_rwCf f2 ?_ (hx_rwCf f1 ?_ r1), hx_rwRf f2 ?_ (hx_rwRf f1 ?_ r2)⟩
  · intro κ i x y
    unfold hx_qR at y
    omega
  · intro κ i x y
    unfold hx_qC at y
    omega
  · intro κ i x y
    unfold hx_qR at y
    omega
  · intro κ i x y
    unfold hx_qC at y
    omega
/-- one that tells a row -/
theorem hx_Iq1 {n : Nat} {E : hx_Env} {t : hx_St} {μ μ1 μ2 : hs_M} (h : hx_I n E t μ) (f1 : hx_fr hx_qX μ μ1) {l : List Int64} (r1 : hx_rwC μ1 l) (f2 : hx_fr hx_qY μ1 μ2) (r2 : hx_rwR μ2 l) : hx_I (n + 1) E t μ2 := by
  have h1 := hx_Iw (hx_Iw (hx_Ia h) f1 (fun _ _ _ x => Or.inl x) (Nat.le_refl n)) f2 (fun _ _ _ x => Or.inr x) (show n ≤ n + 1 by omega)
  refine hx_Ib h1 ⟨l, hx_rwCf f2 ?_ r1, r2⟩
  intro κ i x y
  unfold hx_qY hx_qR at y
  omega
/-- what the reference needs, behind the class's call -/
theorem hx_Ir {n : Nat} {E : hx_Env} {t : hx_St} {μ μ1 : hs_M} (h : hx_I n E t μ) (f1 : hx_fr hx_qX μ μ1) : hx_I' n E t μ1 := hx_Iw (hx_Ia h) f1 (fun _ _ _ x => Or.inl x) (Nat.le_refl n)
/-- the call's flag of a throw put back -/
theorem hx_I0 {n : Nat} {E : hx_Env} {t : hx_St} {μ : hs_M} (h : hx_I' n E t μ) : hx_I' n E t (hs_wI μ 12 0 0 0) := hx_Iw h (X := fun κ _ i => κ = 12 ∧ i = 0) (hx_wr (hx_rf _ _) _ ⟨rfl, rfl⟩) (fun κ j i x => Or.inr (Or.inl (by unfold hx_qR; omega))) (Nat.le_refl n)
