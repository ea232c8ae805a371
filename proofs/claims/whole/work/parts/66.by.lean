/-! ===== E: ranges, rows, followers, weeks by will ===== -/
theorem hx_lli (a b : Int64) : a < b ↔ a.toInt < b.toInt := Int64.lt_iff_toInt_lt
def hx_rg (lo hi : Int) (x : Int32) : Bool := decide (lo ≤ x.toInt ∧ x.toInt ≤ hi)
theorem hx_inM (d : Nat) (x a b : Int64) (μ : hs_M) : hc_M_in (d + 1) x a b μ = some (some (vI (hx_tn (decide (a.toInt ≤ x.toInt ∧ x.toInt ≤ b.toInt)))), μ) := by
  rw [hq_M_in, hq_M_in_17]
  by_cases c1 : lg_cmp x a < 0
  · rw [if_pos c1]
    rw [lg_cmp_lt, hx_lli] at c1
    rw [decide_eq_false (by omega)]
    rfl
  · rw [if_neg c1]
    rw [lg_cmp_lt, hx_lli] at c1
    by_cases c2 : 0 < lg_cmp x b
    · rw [if_pos c2]
      rw [lg_cmp_gt, hx_lli] at c2
      rw [decide_eq_false (by omega)]
      rfl
    · rw [if_neg c2]
      rw [lg_cmp_gt, hx_lli] at c2
      rw [decide_eq_true (by omega)]
      rfl
theorem hx_inR (d : Nat) (x : Int32) (a b : Int64) (μ : hs_M) : hc_M_in (d + 1) x.toInt64 a b μ = some (some (vI (hx_tn (hx_rg a.toInt b.toInt x))), μ) := by
  rw [hx_inM, Int32.toInt_toInt64]
  rfl
theorem hx_rgN {n : Nat} {x : Int32} (h : hx_rg 0 n x = true) : ∃ k, k ≤ n ∧ x = nI k := by
  have h := of_decide_eq_true h
  have e0 : (0 : Int32).toInt = 0 := by decide
  obtain ⟨k, hk, e⟩ := nI_of (x := x) (by rw [hx_li]; omega)
  refine ⟨k, ?_, e⟩
  rw [e, nI_toInt hk] at h
  omega
theorem hx_rg1 {n : Nat} {x : Int32} (h : hx_rg 1 n x = true) : ∃ k, 1 ≤ k ∧ k ≤ n ∧ x = nI k := by
  have h := of_decide_eq_true h
  have e0 : (0 : Int32).toInt = 0 := by decide
  obtain ⟨k, hk, e⟩ := nI_of (x := x) (by rw [hx_li]; omega)
  refine ⟨k, ?_, ?_, e⟩
  · rw [e, nI_toInt hk] at h
    omega
  · rw [e, nI_toInt hk] at h
    omega
/-- the class's way to ask for a range -/
theorem hx_if2 {ρ : Type} (x lo hi : Int32) (A B : ρ) : (if x < lo then A else if hi < x then A else B) = if hx_rg lo.toInt hi.toInt x = true then B else A := by
  unfold hx_rg
  by_cases c1 : x < lo
  · rw [if_pos c1]
    rw [hx_li] at c1
    rw [if_neg]
    intro h
    have := of_decide_eq_true h
    omega
  · rw [if_neg c1]
    rw [hx_li] at c1
    by_cases c2 : hi < x
    · rw [if_pos c2]
      rw [hx_li] at c2
      rw [if_neg]
      intro h
      have := of_decide_eq_true h
      omega
    · rw [if_neg c2]
      rw [hx_li] at c2
      rw [if_pos]
      exact decide_eq_true (by omega)
/-- one of the people -/
def hx_isP (P : Nat) (x : Int32) : Bool := hx_rg 0 ((P : Int) - 1) x
theorem hx_isPn {P : Nat} {x : Int32} (h : hx_isP P x = true) : ∃ p, p < P ∧ x = nI p := by
  have h := of_decide_eq_true h
  have e0 : (0 : Int32).toInt = 0 := by decide
  obtain ⟨k, hk, e⟩ := nI_of (x := x) (by rw [hx_li]; omega)
  refine ⟨k, ?_, e⟩
  rw [e, nI_toInt hk] at h
  omega
theorem hx_isPi {P p : Nat} (h : p < P) (h8 : P ≤ 8) : hx_isP P (nI p) = true := by
  apply decide_eq_true
  rw [nI_toInt (by omega)]
  omega
theorem hx_thas (d : Nat) {μ : hs_M} {E : hx_Env} (hE : hx_EC μ E) (x : Int32) : hc_Town_has (d + 1) x μ = some (some (vI (hx_tn (hx_isP (hx_P E) x))), μ) := by
  have h8 := hE.1.1
  have e0 : (0 : Int32).toInt = 0 := by decide
  have e8 : (8 : Int32).toInt = 8 := by decide
  have eP := nI_toInt (n := hx_P E) (by omega)
  rw [hq_Town_has, hq_Town_has_22, hx_eP hE]
  unfold hx_isP hx_rg
  by_cases c1 : x < 0
  · rw [if_pos c1]
    rw [hx_li] at c1
    rw [decide_eq_false (by omega)]
    rfl
  · rw [if_neg c1]
    rw [hx_li] at c1
    by_cases c2 : x < nI (hx_P E)
    · rw [if_pos c2]
      rw [hx_li] at c2
      rw [if_pos (by rw [hx_li]; omega), decide_eq_true (by omega)]
      rfl
    · rw [if_neg c2]
      rw [hx_li] at c2
      rw [decide_eq_false (by omega)]
      rfl
theorem hx_pm1 {P : Nat} (h8 : P ≤ 8) : (nI P - 1).toInt = (P : Int) - 1 := by
  have := pk_sub_toInt (a := P) (b := 1) (by omega) (by omega)
  exact this
theorem hx_isPM (d : Nat) {μ : hs_M} {E : hx_Env} (hE : hx_ER μ E) (x : Int32) : hc_M_isPerson (d + 2) x μ = some (some (vI (hx_tn (hx_isP (hx_P E) x))), μ) := by
  rw [hq_M_isPerson, hx_inR, hx_bI, hx_tnz, hx_rP hE, Int32.toInt_toInt64, hx_pm1 hE.1.1]
  rfl
/-- one of the people, alive -/
def hx_isA (P : Nat) (t : hx_St) (x : Int32) : Bool := hx_isP P x && bt (t 16) x.toNatClampNeg
theorem hx_isAn {P : Nat} {t : hx_St} {x : Int32} (h8 : P ≤ 8) (h : hx_isA P t x = true) : ∃ p, p < P ∧ x = nI p ∧ bt (t 16) p = true := by
  unfold hx_isA at h
  rw [Bool.and_eq_true] at h
  obtain ⟨p, hp, e⟩ := hx_isPn h.1
  refine ⟨p, hp, e, ?_⟩
  have := h.2
  rw [e, nI_clamp (by omega)] at this
  exact this
theorem hx_there (d : Nat) {μ : hs_M} {E : hx_Env} (hE : hx_EC μ E) {t : hx_St} (hs : hx_SC μ 0 t) (x : Int32) : hc_H_isThere (d + 2) x μ = some (some (vI (hx_tn (hx_isA (hx_P E) t x))), μ) := by
  have h8 := hE.1.1
  rw [hq_H_isThere, hx_thas d hE, hx_bI, hx_tn0, hq_H_isThere_26]
  unfold hx_isA
  by_cases c : hx_isP (hx_P E) x = true
  · obtain ⟨p, hp, e⟩ := hx_isPn c
    rw [if_pos c, c, e, hx_lives _ _ (by omega), hx_bI, hx_tn0, hs.2.2.1, nI_clamp (by omega), hq_H_isThere_26]
    cases bt (t 16) p <;> rfl
  · rw [if_neg c]
    rw [Bool.not_eq_true] at c
    rw [c]
    rfl
theorem hx_isAM (d : Nat) {μ : hs_M} {E : hx_Env} (hE : hx_ER μ E) {t : hx_St} (hs : hx_SR μ 45 0 t) (x : Int32) : hc_M_isAlive (d + 3) x μ = some (some (vI (hx_tn (hx_isA (hx_P E) t x))), μ) := by
  have h8 := hE.1.1
  rw [hq_M_isAlive, hx_isPM d hE, hx_bI, hx_tn0, hq_M_isAlive_26]
  unfold hx_isA
  by_cases c : hx_isP (hx_P E) x = true
  · obtain ⟨p, hp, e⟩ := hx_isPn c
    rw [if_pos c, c, e, hx_has _ _ (by omega), hx_bI, hx_tn0, hx_SR0 hs (by omega), nI_clamp (by omega), hq_M_isAlive_26]
    cases bt (t 16) p <;> rfl
  · rw [if_neg c]
    rw [Bool.not_eq_true] at c
    rw [c]
    rfl
/-! rows -/
def hx_rwC (μ : hs_M) (l : List Int64) : Prop := l.length ≤ 16 ∧ μ.1 4 0 1 = nI l.length ∧ ∀ i v, l[i]? = some v → μ.2 14 0 i = v
def hx_rwR (μ : hs_M) (l : List Int64) : Prop := l.length ≤ 16 ∧ μ.1 12 0 1 = nI l.length ∧ ∀ i v, l[i]? = some v → μ.2 40 0 i = v
def hx_xR (κ _j i : Nat) : Prop := (κ = 4 ∧ i = 1) ∨ κ = 14
def hx_yR (κ _j i : Nat) : Prop := (κ = 12 ∧ i = 1) ∨ κ = 40
theorem hx_app {l : List Int64} {v w : Int64} {i : Nat} (h : (l ++ [v])[i]? = some w) : (i = l.length ∧ w = v) ∨ (i ≠ l.length ∧ l[i]? = some w) := by
  by_cases c : i < l.length
  · right
    rw [List.getElem?_append_left c] at h
    exact ⟨by omega, h⟩
  · left
    rw [List.getElem?_append_right (by omega)] at h
    have c2 : i - l.length = 0 := by
      rcases Nat.eq_zero_or_pos (i - l.length) with z | z
      · exact z
      · rw [List.getElem?_eq_none (by rw [List.length_singleton]; omega)] at h
        cases h
    rw [c2] at h
    exact ⟨by omega, (Option.some.inj h).symm⟩
theorem hx_add (d : Nat) {μ : hs_M} {l : List Int64} (h : hx_rwC μ l) (hl : l.length < 16) (v : Int64) : ∃ μ', hc_Row_add (d + 1) v μ = some (none, μ') ∧ hx_fr hx_xR μ μ' ∧ hx_rwC μ' (l ++ [v]) := by
  obtain ⟨h0, h1, h2⟩ := h
  rw [hq_Row_add, h1, if_neg (nI_pos (by omega)), if_pos (show nI l.length < (16 : Int32) from nI_lt (b := 16) (by omega) (by omega)), if_pos (hx_in (by omega) (by omega)), nI_clamp (by omega), nI_1, hq_Row_add_36]
  refine ⟨_, rfl, hx_wr (hx_wl (hx_rf _ _) _ (Or.inr rfl)) _ (Or.inl ⟨rfl, rfl⟩), ?_, ?_, ?_⟩
  · rw [List.length_append, List.length_singleton]
    omega
  · rw [hx_rd, if_pos ⟨rfl, rfl, rfl⟩, List.length_append, List.length_singleton]
  · intro i w e
    rw [hx_rd2, hx_rl]
    rcases hx_app e with ⟨a, b⟩ | ⟨a, b⟩
    · rw [if_pos ⟨rfl, a, rfl⟩, b]
    · rw [if_neg (by omega)]
      exact h2 i w b
theorem hx_rw0 (μ : hs_M) : hx_rwC (hs_wI μ 4 0 1 0) [] := ⟨by decide, by rw [hx_rd, if_pos ⟨rfl, rfl, rfl⟩]; rfl, fun i v h => by cases h⟩
theorem hx_begin (d : Nat) (μ : hs_M) (v : Int64) : ∃ μ', hc_Row_begin (d + 2) v μ = some (none, μ') ∧ hx_fr hx_xR μ μ' ∧ hx_rwC μ' [v] := by
  obtain ⟨μ', e, f, g⟩ := hx_add d (hx_rw0 μ) (by decide) v
  rw [hq_Row_begin, e, hx_bV]
  exact ⟨μ', rfl, hx_tr (hx_wr (hx_rf _ _) _ (Or.inl ⟨rfl, rfl⟩)) f, g⟩
theorem hx_ent (d : Nat) {μ : hs_M} {l : List Int64} (h : hx_rwR μ l) (hl : l.length < 16) (v : Int64) : ∃ μ', hc_M_enters (d + 1) v μ = some (none, μ') ∧ hx_fr hx_yR μ μ' ∧ hx_rwR μ' (l ++ [v]) := by
  obtain ⟨h0, h1, h2⟩ := h
  rw [hq_M_enters, h1, if_pos (hx_in (by omega) (by omega)), nI_clamp (by omega), nI_1]
  refine ⟨_, rfl, hx_wr (hx_wl (hx_rf _ _) _ (Or.inr rfl)) _ (Or.inl ⟨rfl, rfl⟩), ?_, ?_, ?_⟩
  · rw [List.length_append, List.length_singleton]
    omega
  · rw [hx_rd, if_pos ⟨rfl, rfl, rfl⟩, List.length_append, List.length_singleton]
  · intro i w e
    rw [hx_rd2, hx_rl]
    rcases hx_app e with ⟨a, b⟩ | ⟨a, b⟩
    · rw [if_pos ⟨rfl, a, rfl⟩, b]
    · rw [if_neg (by omega)]
      exact h2 i w b
theorem hx_rwz (μ : hs_M) : hx_rwR (hs_wI μ 12 0 1 0) [] := ⟨by decide, by rw [hx_rd, if_pos ⟨rfl, rfl, rfl⟩]; rfl, fun i v h => by cases h⟩
theorem hx_rwCf {X : Nat → Nat → Nat → Prop} {μ μ' : hs_M} (f : hx_fr X μ μ') (hX : ∀ κ i, ((κ = 4 ∧ i = 1) ∨ κ = 14) → ¬ X κ 0 i) {l : List Int64} (h : hx_rwC μ l) : hx_rwC μ' l :=
  ⟨h.1, by rw [f.1 4 0 1 (hX 4 1 (by omega))]; exact h.2.1, fun i v e => by rw [f.2 14 0 i (hX 14 i (by omega))]; exact h.2.2 i v e⟩
theorem hx_rwRf {X : Nat → Nat → Nat → Prop} {μ μ' : hs_M} (f : hx_fr X μ μ') (hX : ∀ κ i, ((κ = 12 ∧ i = 1) ∨ κ = 40) → ¬ X κ 0 i) {l : List Int64} (h : hx_rwR μ l) : hx_rwR μ' l :=
  ⟨h.1, by rw [f.1 12 0 1 (hX 12 1 (by omega))]; exact h.2.1, fun i v e => by rw [f.2 40 0 i (hX 40 i (by omega))]; exact h.2.2 i v e⟩
def hx_ls (f : Nat → Int64) (n : Nat) : List Int64 := (List.range n).map f
theorem hx_lsS (f : Nat → Int64) (n : Nat) : hx_ls f (n + 1) = hx_ls f n ++ [f n] := by
  unfold hx_ls
  rw [List.range_succ, List.map_append]
  rfl
theorem hx_lsL (f : Nat → Int64) (n : Nat) : (hx_ls f n).length = n := by
  unfold hx_ls
  rw [List.length_map, List.length_range]
/-! followers -/
theorem hx_follow (d : Nat) {μ : hs_M} {j k : Nat} {t : hx_St} (hs : hx_SC μ k t) (hjk : j ≠ k) : ∃ μ', hc_State_follow (d + 1) j k μ = some (none, μ') ∧ hx_fr (fun κ b _ => b = j ∧ (κ = 6 ∨ κ = 24 ∨ κ = 25)) μ μ' ∧ hx_SC μ' j t := by
  obtain ⟨h1, h2, h3, h4, h5, h6, h7, h8⟩ := hs
  have hkj : k ≠ j := Ne.symm hjk
  rw [hq_State_follow]
  refine ⟨_, rfl, ?_, ?_, ?_, ?_, ?_, ?_, ?_, ?_, ?_⟩
  · exact hx_wc (hx_wc (hx_wr (hx_wr (hx_wr (hx_wr (hx_wr (hx_wr (hx_rf _ _) _ ⟨rfl, by omega⟩) _ ⟨rfl, by omega⟩) _ ⟨rfl, by omega⟩) _ ⟨rfl, by omega⟩) _ ⟨rfl, by omega⟩) _ ⟨rfl, by omega⟩) (fun i _ _ => ⟨rfl, by omega⟩)) (fun i _ _ => ⟨rfl, by omega⟩)
  · intro i hi
    rw [← h1 i hi]
    simp [hx_rd, hx_rc, hjk, hkj, hi]
  · intro i hi
    rw [← h2 i hi]
    simp [hx_rd, hx_rc, hjk, hkj, hi]
  · rw [← h3]
    simp [hx_rd, hx_rc, hjk, hkj]
  · rw [← h4]
    simp [hx_rd, hx_rc, hjk, hkj]
  · rw [← h5]
    simp [hx_rd, hx_rc, hjk, hkj]
  · rw [← h6]
    simp [hx_rd, hx_rc, hjk, hkj]
  · rw [← h7]
    simp [hx_rd, hx_rc, hjk, hkj]
  · rw [← h8]
    simp [hx_rd, hx_rc, hjk, hkj]
theorem hx_copy (d : Nat) {μ : hs_M} {j k : Nat} {t : hx_St} (hs : hx_SF μ k t) (hjk : j ≠ k) : ∃ μ', hc_State_copy (d + 2) j k μ = some (none, μ') ∧ hx_fr (fun κ b _ => b = j ∧ (κ = 6 ∨ (24 ≤ κ ∧ κ ≤ 29))) μ μ' ∧ hx_SF μ' j t := by
  have hkj : k ≠ j := Ne.symm hjk
  obtain ⟨μ1, e1, f1, s1⟩ := hx_follow d hs.1 hjk
  obtain ⟨_, h6, h26, h27, h28, h29⟩ := hs
  have g : ∀ κ i, μ1.1 κ k i = μ.1 κ k i := fun κ i => f1.1 κ k i (by omega)
  have f1' : hx_fr (fun κ b _ => b = j ∧ (κ = 6 ∨ (24 ≤ κ ∧ κ ≤ 29))) μ μ1 := hx_mo (fun κ b i x => ⟨x.1, by omega⟩) f1
  rw [hq_State_copy, e1, hx_bV]
  refine ⟨_, rfl, ?_, ?_, ?_, ?_, ?_, ?_, ?_⟩
  · exact hx_wc (hx_wc (hx_wc (hx_wc (hx_wr f1' _ ⟨rfl, by omega⟩) (fun i _ _ => ⟨rfl, by omega⟩)) (fun i _ _ => ⟨rfl, by omega⟩)) (fun i _ _ => ⟨rfl, by omega⟩)) (fun i _ _ => ⟨rfl, by omega⟩)
  · obtain ⟨a1, a2, a3, a4, a5, a6, a7, a8⟩ := s1
    refine ⟨?_, ?_, ?_, ?_, ?_, ?_, ?_, ?_⟩
    · intro i hi
      rw [← a1 i hi]
      simp [hx_rd, hx_rc]
    · intro i hi
      rw [← a2 i hi]
      simp [hx_rd, hx_rc]
    · rw [← a3]
      simp [hx_rd, hx_rc]
    · rw [← a4]
      simp [hx_rd, hx_rc]
    · rw [← a5]
      simp [hx_rd, hx_rc]
    · rw [← a6]
      simp [hx_rd, hx_rc]
    · rw [← a7]
      simp [hx_rd, hx_rc]
    · rw [← a8]
      simp [hx_rd, hx_rc]
  · rw [← h6, ← g]
    simp [hx_rd, hx_rc]
  · intro i hi
    rw [← h26 i hi, ← g]
    simp [hx_rd, hx_rc, hi, hkj]
  · intro i hi
    rw [← h27 i hi, ← g]
    simp [hx_rd, hx_rc, hi, hkj]
  · intro i hi
    rw [← h28 i hi, ← g]
    simp [hx_rd, hx_rc, hi, hkj]
  · intro i hi
    rw [← h29 i hi, ← g]
    simp [hx_rd, hx_rc, hi, hkj]
theorem hx_putsL (d : Nat) {κ : Nat} (hκ : κ = 46 ∨ κ = 65) {t : hx_St} {μ0 : hs_M} (hs : hx_SR μ0 45 0 t) : ∀ (m k : Nat) (μ : hs_M), k + m = 117 → hx_fr (fun a b _ => b = 0 ∧ a = κ) μ0 μ → (∀ i, i < k → μ.1 κ 0 i = t i) → ∃ μ', he_M_puts_2 d κ (nI k) μ = some (none, μ') ∧ hx_fr (fun a b _ => b = 0 ∧ a = κ) μ0 μ' ∧ hx_SR μ' κ 0 t
  | 0, k, μ, hk, f, h => by
    rw [hq_M_puts_2 _ _ _ _ hκ, if_neg (show ¬ nI k < (117 : Int32) from nI_nlt (b := 117) (by omega) (by omega))]
    exact ⟨μ, rfl, f, hx_SRi (fun i hi => h i (by omega))⟩
  | m + 1, k, μ, hk, f, h => by
    rw [hq_M_puts_2 _ _ _ _ hκ, if_pos (show nI k < (117 : Int32) from nI_lt (b := 117) (by omega) (by omega)), if_pos (hx_in (by omega) (by omega)), if_pos (hx_in (by omega) (by omega)), nI_clamp (by omega), nI_1, f.1 45 0 k (by omega), hx_SR0 hs (by omega)]
    apply hx_putsL d hκ hs m (k + 1) _ (by omega) (hx_wr f _ ⟨rfl, rfl⟩)
    intro i hi
    rw [hx_rd]
    by_cases c : i = k
    · rw [if_pos ⟨rfl, c, rfl⟩, c]
    · rw [if_neg (by omega), h i (by omega)]
theorem hx_puts (d : Nat) {κ : Nat} (hκ : κ = 46 ∨ κ = 65) {t : hx_St} {μ : hs_M} (hs : hx_SR μ 45 0 t) : ∃ μ', hc_M_puts (d + 1) κ μ = some (none, μ') ∧ hx_fr (fun a b _ => b = 0 ∧ a = κ) μ μ' ∧ hx_SR μ' κ 0 t := by
  rw [hq_M_puts _ _ _ hκ]
  exact hx_putsL d hκ hs 117 0 μ (by omega) (hx_rf _ _) (fun i hi => absurd hi (by omega))
/-- cells that the reference's weeks to come use -/
def hx_yN (κ b i : Nat) : Prop := κ = 54 ∨ (b = 0 ∧ (κ = 46 ∨ κ = 57 ∨ (κ = 12 ∧ i = 27)))
theorem hx_startL (d : Nat) {μ0 : hs_M} : ∀ (m k : Nat) (μ : hs_M), k + m = 8 → hx_fr (fun a b _ => b = 0 ∧ a = 57) μ0 μ → (∀ i, i < k → μ.1 57 0 i = 0) → ∃ μ', he_M_starts_13 d (nI k) μ = some (none, μ') ∧ hx_fr (fun a b _ => b = 0 ∧ a = 57) μ0 μ' ∧ (∀ i, i < 8 → μ'.1 57 0 i = 0)
  | 0, k, μ, hk, f, h => by
    rw [hq_M_starts_13, if_neg (show ¬ nI k < (8 : Int32) from nI_nlt (b := 8) (by omega) (by omega))]
    exact ⟨μ, rfl, f, fun i hi => h i (by omega)⟩
  | m + 1, k, μ, hk, f, h => by
    rw [hq_M_starts_13, if_pos (show nI k < (8 : Int32) from nI_lt (b := 8) (by omega) (by omega)), if_pos (hx_in (by omega) (by omega)), nI_clamp (by omega), nI_1]
    apply hx_startL d m (k + 1) _ (by omega) (hx_wr f _ ⟨rfl, rfl⟩)
    intro i hi
    rw [hx_rd]
    by_cases c : i = k
    · rw [if_pos ⟨rfl, c, rfl⟩]
    · rw [if_neg (by omega), h i (by omega)]
theorem hx_starts (d : Nat) {t : hx_St} {μ : hs_M} (hs : hx_SR μ 45 0 t) : ∃ μ', hc_M_starts (d + 2) μ = some (none, μ') ∧ hx_fr hx_yN μ μ' ∧ hx_SR μ' 46 0 t ∧ (∀ i, i < 8 → μ'.1 57 0 i = 0) := by
  obtain ⟨μ1, e1, f1, s1⟩ := hx_puts d (κ := 46) (Or.inl rfl) hs
  obtain ⟨μ2, e2, f2, s2⟩ := hx_startL (d + 1) 8 0 μ1 (by omega) (hx_rf _ _) (fun i hi => absurd hi (by omega))
  rw [hq_M_starts, e1, hx_bV, show (0 : Int32) = nI 0 from rfl, e2]
  refine ⟨μ2, rfl, hx_tr (hx_mo (fun κ b i x => by unfold hx_yN; omega) f1) (hx_mo (fun κ b i x => by unfold hx_yN; omega) f2), hx_SRf f2 (by intro i _ x; omega) s1, s2⟩
theorem hx_ERN {μ μ' : hs_M} (f : hx_fr hx_yN μ μ') {E : hx_Env} (h : hx_ER μ E) : hx_ER μ' E := hx_ERf f (by intro κ i h x; unfold hx_rF at h; unfold hx_yN at x; omega) h
/-- how often each served since t0 -/
def hx_sf (μ : hs_M) (t0 s : hx_St) : Prop := ∀ i, i < 8 → μ.1 57 0 i = s (8 + i) - t0 (8 + i)
theorem hx_goNext (d : Nat) {μ : hs_M} {E : hx_Env} (hE : hx_ER μ E) {W : Nat} (hW : W < 2 ^ 30) {s t0 : hx_St} (ht : hx_tw (hx_P E) W s) (hs : hx_SR μ 46 0 s) (h0 : hx_sf μ t0 s) (a : Int32) : ∃ μ', hc_M_goesNext (d + 4) a μ = some (none, μ') ∧ hx_fr hx_yN μ μ' ∧ hx_SR μ' 46 0 (hx_stp E s (bt a)) ∧ hx_sf μ' t0 (hx_stp E s (bt a)) := by
  have h8 := hE.1.1
  obtain ⟨μ1, e1, f1, s1, _⟩ := hx_goes d (κ := 46) (Or.inr (Or.inl rfl)) hE hW ht hs a
  have f1' : hx_fr hx_yN μ μ1 := hx_mo (fun κ b i x => by unfold hx_xG at x; unfold hx_yN; omega) f1
  have h1 : ∀ i, i < 8 → μ1.1 57 0 i = s (8 + i) - t0 (8 + i) := fun i hi => by
    rw [f1.1 57 0 i (by unfold hx_xG; omega)]
    exact h0 i hi
  have hw : hx_wr8 (hx_P E) (hx_wo s (hx_win E s (bt a) (hx_P E))) := by
    apply hx_woR ht
    rcases hx_winr E s (bt a) (hx_P E) with e | ⟨p, hp, e, _⟩
    · exact Or.inl e
    · exact Or.inr ⟨p, hp, e⟩
  have e17 : μ1.1 46 0 17 = hx_wo s (hx_win E s (bt a) (hx_P E)) := by
    rw [hx_SR0 s1 (by omega)]
    exact hx_f17 h8 hw
  rw [hq_M_goesNext, e1, hx_bV, e17]
  rcases hx_wrN h8 hw with ⟨x, e⟩ | ⟨x, ne, p, hp, e⟩
  · rw [if_pos x, hq_M_goesNext_35]
    refine ⟨μ1, rfl, f1', s1, ?_⟩
    intro i hi
    rw [h1 i hi]
    unfold hx_stp
    rw [hx_ftot h8 hw hi, if_neg]
    intro z
    rw [z] at x
    exact nI_pos (by omega) x
  · rw [if_neg x, e, if_pos (hx_in (by omega) (by omega)), if_pos (hx_in (by omega) (by omega)), nI_clamp (by omega), hq_M_goesNext_35]
    refine ⟨_, rfl, hx_wr f1' _ (by unfold hx_yN; omega), ?_, ?_⟩
    · apply hx_SRi
      intro i hi
      rw [hx_rd, if_neg (by omega), hx_SR0 s1 hi]
    · intro i hi
      rw [hx_rd]
      unfold hx_stp
      rw [hx_ftot h8 hw hi, e]
      by_cases c : i = p
      · rw [if_pos ⟨rfl, c, rfl⟩, if_pos (by rw [c]), h1 p (by omega), c]
        rw [Int32.sub_eq_add_neg, Int32.sub_eq_add_neg, Int32.add_assoc, Int32.add_assoc, Int32.add_comm (-t0 (8 + p)) 1]
      · rw [if_neg (by omega), h1 i hi, if_neg]
        rw [nI_eq (by omega) (by omega)]
        omega
/-- weeks by will of those asked -/
noncomputable def hx_by (E : hx_Env) (a : Int32) (t : hx_St) : Nat → hx_St
  | 0 => t
  | n + 1 => hx_stp E (hx_by E a t n) (hx_sa E (hx_by E a t n) 0 a)
theorem hx_byS (E : hx_Env) (a : Int32) (t : hx_St) (n : Nat) : hx_by E a t (n + 1) = hx_stp E (hx_by E a t n) (hx_sa E (hx_by E a t n) 0 a) := rfl
theorem hx_bytw {E : hx_Env} (h8 : hx_P E ≤ 8) (a : Int32) {t : hx_St} {W : Nat} (ht : hx_tw (hx_P E) W t) : ∀ n, W + n < 2 ^ 30 → hx_tw (hx_P E) (W + n) (hx_by E a t n)
  | 0, _ => ht
  | n + 1, h => hx_stw h8 (by omega) (hx_bytw h8 a ht n (by omega)) _
/-- what the reference calls never -/
def hx_nv (P : Nat) (a v : Int32) : Prop := ∀ p, p < P → bt a p = !bt v p
theorem hx_nvS {E : hx_Env} (h8 : hx_P E ≤ 8) {a v : Int32} (hv : hx_nv (hx_P E) a v) (s : hx_St) : hx_stp E s (bt (hx_wb E s (hx_P E) &&& (v ^^^ (-1)))) = hx_stp E s (hx_sa E s 0 a) := by
  apply hx_stc
  intro p hp al
  rw [b_and, hx_wbt E s (by omega) _ (by omega), hx_not v (by omega)]
  unfold hx_sa
  rw [hv p hp, al, b_0, decide_eq_true hp, Bool.false_or, Bool.true_and, Bool.true_and, Bool.and_comm]
theorem hx_goBL (d : Nat) {E : hx_Env} {W : Nat} {a v : Int32} (hv : hx_nv (hx_P E) a v) {t0 t : hx_St} (ht : hx_tw (hx_P E) W t) {n : Nat} (hn : W + n < 2 ^ 30) : ∀ (m k : Nat) (μ : hs_M), k + m = n → hx_ER μ E → hx_SR μ 46 0 (hx_by E a t k) → hx_sf μ t0 (hx_by E a t k) → ∃ μ', he_M_goesBy_2 (d + 5) (nI n) v (nI k) μ = some (none, μ') ∧ hx_fr hx_yN μ μ' ∧ hx_SR μ' 46 0 (hx_by E a t n) ∧ hx_sf μ' t0 (hx_by E a t n)
  | 0, k, μ, hk, hE, hs, h0 => by
    rw [hq_M_goesBy_2, if_neg (nI_nlt (by omega) (by omega))]
    have e : k = n := hk
    subst e
    exact ⟨μ, rfl, hx_rf _ _, hs, h0⟩
  | m + 1, k, μ, hk, hE, hs, h0 => by
    have h8 := hE.1.1
    have htk := hx_bytw h8 a ht k (by omega)
    obtain ⟨μ1, e1, f1⟩ := hx_willing d (κ := 46) (Or.inr (Or.inl rfl)) hE htk hs
    have f1' : hx_fr hx_yN μ μ1 := hx_mo (fun κ b i x => Or.inl x) f1
    have s1 := hx_SRV f1 (κ := 46) (by omega) hs
    have h1 : hx_sf μ1 t0 (hx_by E a t k) := fun i hi => by
      rw [f1.1 57 0 i (by unfold hx_xV; omega)]
      exact h0 i hi
    obtain ⟨μ2, e2, f2, s2, h2⟩ := hx_goNext (d + 1) (hx_ERV f1 hE) (by omega) htk s1 h1 (hx_wb E (hx_by E a t k) (hx_P E) &&& (v ^^^ (-1)))
    rw [hx_nvS h8 hv, ← hx_byS] at s2 h2
    obtain ⟨μ3, e3, f3, s3, h3⟩ := hx_goBL d hv ht hn m (k + 1) μ2 (by omega) (hx_ERN f2 (hx_ERV f1 hE)) s2 h2
    rw [hq_M_goesBy_2, if_pos (nI_lt (by omega) (by omega)), e1, hx_bI, e2, hx_bV, nI_1]
    exact ⟨μ3, e3, hx_tr (hx_tr f1' f2) f3, s3, h3⟩
