/-! ===== E: questions of weeks to come by will ===== -/
/-- both answer alike, and what holds goes on -/
def hx_A (n : Nat) (μ : hs_M) (c r : hs_M → Option (Option hs_V × hs_M)) : Prop := ∃ v μ1 μ2, c μ = some (some (vI v), μ1) ∧ r μ1 = some (some (vI v), μ2) ∧ ∃ E t, hx_I (n + 1) E t μ2
theorem hx_xSq {j : Nat} (hj : 24 ≤ j) {μ μ' : hs_M} (f : hx_fr (hx_xS j) μ μ') : hx_fr hx_qC μ μ' := hx_mo (fun κ b i x => by unfold hx_xS at x; unfold hx_qC; omega) f
theorem hx_yNq {μ μ' : hs_M} (f : hx_fr hx_yN μ μ') : hx_fr hx_qR μ μ' := hx_mo (fun κ b i x => by unfold hx_yN at x; unfold hx_qR; omega) f
theorem hx_xRq {μ μ' : hs_M} (f : hx_fr hx_xR μ μ') : hx_fr hx_qX μ μ' := hx_mo (fun κ b i x => Or.inr x) f
theorem hx_yRq {μ μ' : hs_M} (f : hx_fr hx_yR μ μ') : hx_fr hx_qY μ μ' := hx_mo (fun κ b i x => Or.inr x) f
theorem hx_qCX {μ μ' : hs_M} (f : hx_fr hx_qC μ μ') : hx_fr hx_qX μ μ' := hx_mo (fun κ b i x => Or.inl x) f
theorem hx_qRY {μ μ' : hs_M} (f : hx_fr hx_qR μ μ') : hx_fr hx_qY μ μ' := hx_mo (fun κ b i x => Or.inl x) f
theorem hx_ECq {μ μ' : hs_M} (f : hx_fr hx_qX μ μ') {E : hx_Env} (h : hx_EC μ E) : hx_EC μ' E := hx_ECf f (by intro κ i h x; unfold hx_cF at h; unfold hx_qX hx_qC at x; omega) h
theorem hx_ERq {μ μ' : hs_M} (f : hx_fr hx_qY μ μ') {E : hx_Env} (h : hx_ER μ E) : hx_ER μ' E := hx_ERf f (by intro κ i h x; unfold hx_rF at h; unfold hx_qY hx_qR at x; omega) h
theorem hx_SCq {μ μ' : hs_M} (f : hx_fr hx_qX μ μ') {j : Nat} (hj : j < 24) {t : hx_St} (h : hx_SC μ j t) : hx_SC μ' j t := hx_SCf f (by intro κ i h x; unfold hx_qX hx_qC at x; omega) h
theorem hx_SRq {μ μ' : hs_M} (f : hx_fr hx_qY μ μ') {t : hx_St} (h : hx_SR μ 45 0 t) : hx_SR μ' 45 0 t := hx_SRf f (by intro i h x; unfold hx_qY hx_qR at x; omega) h
theorem hx_runL (d : Nat) {E : hx_Env} {W : Nat} (a : Int32) {t : hx_St} (ht : hx_tw (hx_P E) W t) {n : Nat} (hn : W + n < 2 ^ 30) : ∀ (m k : Nat) (μ : hs_M), k + m = n → hx_EC μ E → hx_SC μ 35 (hx_by E a t k) → ∃ μ', he_Future_run_13 (d + 4) (nI n) a (nI k) μ = some (none, μ') ∧ hx_fr (hx_xS 35) μ μ' ∧ hx_SC μ' 35 (hx_by E a t n)
  | 0, k, μ, hk, hE, hs => by
    rw [hq_Future_run_13, if_neg (nI_nlt (by omega) (by omega))]
    have e : k = n := hk
    subst e
    exact ⟨μ, rfl, hx_rf _ _, hs⟩
  | m + 1, k, μ, hk, hE, hs => by
    obtain ⟨μ1, e1, f1, s1, _⟩ := hx_pass d hE (by omega) (hx_bytw hE.1.1 a ht k (by omega)) hs 0 a
    rw [← hx_byS] at s1
    obtain ⟨μ2, e2, f2, s2⟩ := hx_runL d a ht hn m (k + 1) μ1 (by omega) (hx_ECS f1 hE) s1
    rw [hq_Future_run_13, if_pos (nI_lt (by omega) (by omega)), e1, hx_bV, nI_1]
    exact ⟨μ2, e2, hx_tr f1 f2, s2⟩
theorem hx_run (d : Nat) {μ : hs_M} {E : hx_Env} (hE : hx_EC μ E) {W : Nat} {t : hx_St} (ht : hx_tw (hx_P E) W t) (hs : hx_SC μ 0 t) (a : Int32) {n : Nat} (hn : W + n < 2 ^ 30) : ∃ μ', hc_Future_run (d + 5) (nI n) a μ = some (none, μ') ∧ hx_fr (hx_xS 35) μ μ' ∧ hx_SC μ' 35 (hx_by E a t n) := by
  obtain ⟨μ1, e1, f1, s1⟩ := hx_follow (d + 3) (j := 35) hs (by omega)
  have f1' : hx_fr (hx_xS 35) μ μ1 := hx_mo (fun κ b i x => by unfold hx_xS; omega) f1
  obtain ⟨μ2, e2, f2, s2⟩ := hx_runL d a ht hn n 0 μ1 (by omega) (hx_ECS f1' hE) s1
  rw [hq_Future_run, e1, hx_bV, show (0 : Int32) = nI 0 from rfl, e2]
  exact ⟨μ2, rfl, hx_tr f1' f2, s2⟩
theorem hx_gain (d : Nat) {μ : hs_M} {s t : hx_St} (h1 : hx_SC μ 35 s) (h0 : hx_SC μ 0 t) {p : Nat} (hp : p < 8) : hc_Future_gain (d + 1) (nI p) μ = some (some (vI (s (8 + p) - t (8 + p))), μ) := by
  rw [hq_Future_gain, if_pos (hx_in hp (by omega)), if_pos (hx_in hp (by omega)), nI_clamp (by omega), h1.2.1 p hp, h0.2.1 p hp]
/-- of a party -/
def hx_gp (E : hx_Env) (s t : hx_St) (its : Int32) : Nat → Int32
  | 0 => 0
  | n + 1 => if hx_Pt E n = its then hx_gp E s t its n + (s (8 + n) - t (8 + n)) else hx_gp E s t its n
theorem hx_gpS (E : hx_Env) (s t : hx_St) (its : Int32) (n : Nat) : hx_gp E s t its (n + 1) = if hx_Pt E n = its then hx_gp E s t its n + (s (8 + n) - t (8 + n)) else hx_gp E s t its n := rfl
theorem hx_gopL (d : Nat) {μ : hs_M} {E : hx_Env} (hE : hx_EC μ E) {s t : hx_St} (h1 : hx_SC μ 35 s) (h0 : hx_SC μ 0 t) (its : Int32) : ∀ (m k : Nat), k + m = hx_P E → he_Future_gainOfParty_4 (d + 1) its (hx_gp E s t its k) (nI k) μ = some (some (vI (hx_gp E s t its (hx_P E))), μ)
  | 0, k, hk => by
    have h8 := hE.1.1
    rw [hq_Future_gainOfParty_4, hx_eP hE, if_neg (nI_nlt (by omega) (by omega)), show k = hx_P E from hk]
  | m + 1, k, hk => by
    have h8 := hE.1.1
    have ih := hx_gopL d hE h1 h0 its m (k + 1) (by omega)
    rw [hx_gpS] at ih
    rw [hq_Future_gainOfParty_4, hx_eP hE, if_pos (nI_lt (by omega) (by omega)), if_pos (hx_in (by omega) (by omega)), nI_clamp (by omega), hE.2.2.1 k (by omega), hx_gain d h1 h0 (by omega), hx_bI, hq_Future_gainOfParty_36, hq_Future_gainOfParty_36, nI_1]
    by_cases c : hx_Pt E k = its
    · rw [if_pos c] at ih ⊢
      exact ih
    · rw [if_neg c] at ih ⊢
      exact ih
theorem hx_gop (d : Nat) {μ : hs_M} {E : hx_Env} (hE : hx_EC μ E) {s t : hx_St} (h1 : hx_SC μ 35 s) (h0 : hx_SC μ 0 t) (its : Int32) : hc_Future_gainOfParty (d + 2) its μ = some (some (vI (hx_gp E s t its (hx_P E))), μ) := by
  rw [hq_Future_gainOfParty]
  exact hx_gopL d hE h1 h0 its (hx_P E) 0 (by omega)
theorem hx_sbL (d : Nat) {μ : hs_M} {E : hx_Env} (hE : hx_ER μ E) {s t : hx_St} (h : hx_sf μ t s) (its : Int32) : ∀ (m k : Nat), k + m = hx_P E → he_M_servedBy_4 d its (hx_gp E s t its k) (nI k) μ = some (some (vI (hx_gp E s t its (hx_P E))), μ)
  | 0, k, hk => by
    have h8 := hE.1.1
    rw [hq_M_servedBy_4, hx_rP hE, if_neg (nI_nlt (by omega) (by omega)), show k = hx_P E from hk]
  | m + 1, k, hk => by
    have h8 := hE.1.1
    have ih := hx_sbL d hE h its m (k + 1) (by omega)
    rw [hx_gpS] at ih
    rw [hq_M_servedBy_4, hx_rP hE, if_pos (nI_lt (by omega) (by omega)), if_pos (hx_in (by omega) (by omega)), nI_clamp (by omega), hE.2.2.1 k (by omega), if_pos (hx_in (by omega) (by omega)), nI_1, h k (by omega), Int32.add_zero]
    by_cases c : hx_Pt E k = its
    · rw [if_pos c] at ih ⊢
      exact ih
    · rw [if_neg c] at ih ⊢
      exact ih
theorem hx_sb (d : Nat) {μ : hs_M} {E : hx_Env} (hE : hx_ER μ E) {s t : hx_St} (h : hx_sf μ t s) (its : Int32) : hc_M_servedBy (d + 1) its μ = some (some (vI (hx_gp E s t its (hx_P E))), μ) := by
  rw [hq_M_servedBy]
  exact hx_sbL d hE h its (hx_P E) 0 (by omega)
theorem hx_goBy (d : Nat) {μ : hs_M} {E : hx_Env} (hE : hx_ER μ E) {W : Nat} {a v : Int32} (hv : hx_nv (hx_P E) a v) {t0 t : hx_St} (ht : hx_tw (hx_P E) W t) (hs : hx_SR μ 46 0 t) (h0 : hx_sf μ t0 t) {n : Nat} (hn : W + n < 2 ^ 30) : ∃ μ', hc_M_goesBy (d + 6) (nI n) v μ = some (none, μ') ∧ hx_fr hx_yN μ μ' ∧ hx_SR μ' 46 0 (hx_by E a t n) ∧ hx_sf μ' t0 (hx_by E a t n) := by
  rw [hq_M_goesBy]
  exact hx_goBL d hv ht hn n 0 μ (by omega) hE hs h0
/-- starts, then weeks by will -/
theorem hx_stBy (d : Nat) {μ : hs_M} {E : hx_Env} (hE : hx_ER μ E) {W : Nat} {a v : Int32} (hv : hx_nv (hx_P E) a v) {t : hx_St} (ht : hx_tw (hx_P E) W t) (hs : hx_SR μ 45 0 t) {n : Nat} (hn : W + n < 2 ^ 30) : ∃ μ1 μ2, hc_M_starts (d + 6) μ = some (none, μ1) ∧ hc_M_goesBy (d + 6) (nI n) v μ1 = some (none, μ2) ∧ hx_fr hx_yN μ μ2 ∧ hx_SR μ2 46 0 (hx_by E a t n) ∧ hx_sf μ2 t (hx_by E a t n) := by
  obtain ⟨μ1, e1, f1, s1, g1⟩ := hx_starts (d + 4) hs
  obtain ⟨μ2, e2, f2, s2, g2⟩ := hx_goBy d (hx_ERN f1 hE) hv ht s1 (t0 := t) (fun i hi => by rw [g1 i hi, Int32.sub_self]) hn
  exact ⟨μ1, μ2, e1, e2, hx_tr f1 f2, s2, g2⟩
theorem hx_nv0 {P : Nat} (h8 : P ≤ 8) : hx_nv P 255 0 := by
  intro p hp
  rw [b_255, b_0, decide_eq_true (by omega)]
  rfl
theorem hx_weeks (d : Nat) (x : Int32) (μ : hs_M) : hc_M_areWeeks (d + 2) x μ = some (some (vI (hx_tn (hx_rg 0 99 x))), μ) := by
  rw [hq_M_areWeeks, hx_inR, hx_bI, hx_tnz]
  rfl
theorem hx_i99 {ρ : Type} (x : Int32) (A B : ρ) : (if x < 0 then A else if 99 < x then A else B) = if hx_rg 0 99 x = true then B else A := hx_if2 x 0 99 A B
/-! then -/
theorem hx_thC (d : Nat) {E : hx_Env} {s t : hx_St} {μ0 : hs_M} (hE : hx_EC μ0 E) (h1 : hx_SC μ0 35 s) (h0 : hx_SC μ0 0 t) : ∀ (m k : Nat) (μ : hs_M), k + m = hx_P E → hx_fr hx_xR μ0 μ → hx_rwC μ (hx_ls (fun p => (s (8 + p) - t (8 + p)).toInt64) k) → ∃ μ', he_Future_serverThen_18 (d + 1) (nI k) μ = some (some (vI (s 17)), μ') ∧ hx_fr hx_xR μ0 μ' ∧ hx_rwC μ' (hx_ls (fun p => (s (8 + p) - t (8 + p)).toInt64) (hx_P E))
  | 0, k, μ, hk, f, h => by
    have h8 := hE.1.1
    rw [hq_Future_serverThen_18, f.1 8 0 9 (by unfold hx_xR; omega), hx_eP hE, if_neg (nI_nlt (by omega) (by omega)), f.1 6 35 1 (by unfold hx_xR; omega), h1.2.2.2.1]
    rw [show k = hx_P E from hk] at h
    exact ⟨μ, rfl, f, h⟩
  | m + 1, k, μ, hk, f, h => by
    have h8 := hE.1.1
    have h1' : hx_SC μ 35 s := hx_SCf f (by intro κ i h x; unfold hx_xR at x; omega) h1
    have h0' : hx_SC μ 0 t := hx_SCf f (by intro κ i h x; unfold hx_xR at x; omega) h0
    obtain ⟨μ1, e1, f1, r1⟩ := hx_add d h (by rw [hx_lsL]; omega) ((s (8 + k) - t (8 + k)).toInt64)
    rw [← hx_lsS (fun p => (s (8 + p) - t (8 + p)).toInt64)] at r1
    rw [hq_Future_serverThen_18, f.1 8 0 9 (by unfold hx_xR; omega), hx_eP hE, if_pos (nI_lt (by omega) (by omega)), hx_gain d h1' h0' (by omega), hx_bI, e1, hx_bV, nI_1]
    exact hx_thC d hE h1 h0 m (k + 1) μ1 (by omega) (hx_tr f f1) r1
theorem hx_thR (d : Nat) {E : hx_Env} {s t : hx_St} {μ0 : hs_M} (hE : hx_ER μ0 E) (h1 : hx_SR μ0 46 0 s) (h0 : hx_sf μ0 t s) : ∀ (m k : Nat) (μ : hs_M), k + m = hx_P E → hx_fr hx_yR μ0 μ → hx_rwR μ (hx_ls (fun p => (s (8 + p) - t (8 + p)).toInt64) k) → ∃ μ', he_M_then_32 (d + 1) (nI k) μ = some (some (vI (s 17)), μ') ∧ hx_fr hx_yR μ0 μ' ∧ hx_rwR μ' (hx_ls (fun p => (s (8 + p) - t (8 + p)).toInt64) (hx_P E))
  | 0, k, μ, hk, f, h => by
    have h8 := hE.1.1
    rw [hq_M_then_32, f.1 12 0 3 (by unfold hx_yR; omega), hx_rP hE, if_neg (nI_nlt (by omega) (by omega)), f.1 46 0 17 (by unfold hx_yR; omega), hx_SR0 h1 (by omega)]
    rw [show k = hx_P E from hk] at h
    exact ⟨μ, rfl, f, h⟩
  | m + 1, k, μ, hk, f, h => by
    have h8 := hE.1.1
    obtain ⟨μ1, e1, f1, r1⟩ := hx_ent d h (by rw [hx_lsL]; omega) ((s (8 + k) - t (8 + k)).toInt64)
    rw [← hx_lsS (fun p => (s (8 + p) - t (8 + p)).toInt64)] at r1
    rw [hq_M_then_32, f.1 12 0 3 (by unfold hx_yR; omega), hx_rP hE, if_pos (nI_lt (by omega) (by omega)), if_pos (hx_in (by omega) (by omega)), nI_clamp (by omega), f.1 57 0 k (by unfold hx_yR; omega), h0 k (by omega), e1, hx_bV, nI_1]
    exact hx_thR d hE h1 h0 m (k + 1) μ1 (by omega) (hx_tr f f1) r1
/-- no answer but a number, nothing changed -/
theorem hx_Anone {n : Nat} {E : hx_Env} {t : hx_St} {μ : hs_M} (h : hx_I n E t μ) {c r : hs_M → Option (Option hs_V × hs_M)} {v : Int32} (e1 : c μ = some (some (vI v), μ)) (e2 : r μ = some (some (vI v), hs_wI μ 12 0 0 0)) : hx_A n μ c r :=
  ⟨v, μ, _, e1, e2, E, t, hx_Iq0 h (hx_rf _ _) (hx_wr (hx_rf _ _) _ (by unfold hx_qR; omega))⟩
theorem hx_then (d : Nat) {n : Nat} (hn : n ≤ 512) {E : hx_Env} {t : hx_St} {μ : hs_M} (h : hx_I n E t μ) (x : Int32) : hx_A n μ (hc_H_then (d + 7) x) (hc_M_then (d + 7) x) := by
  have h8 := h.1.1.1
  by_cases c : hx_rg 0 99 x = true
  · obtain ⟨k, hk, ex⟩ := hx_rgN (n := 99) c
    obtain ⟨μ1, e1, f1, s1⟩ := hx_run d h.1 h.2.2.2.2.1 h.2.2.1.1 255 (n := k) (by omega)
    have q1 := hx_qCX (hx_xSq (by omega) f1)
    have f2 : hx_fr hx_xR μ1 (hs_wI μ1 4 0 1 0) := hx_wr (hx_rf _ _) _ (by unfold hx_xR; omega)
    have q2 := hx_tr q1 (hx_xRq f2)
    obtain ⟨μ3, e3, f3, r3⟩ := hx_thC (d + 4) (hx_ECq q2 h.1) (hx_SCf f2 (by intro κ i h x; unfold hx_xR at x; omega) s1) (hx_SCq q2 (by omega) h.2.2.1.1) (hx_P E) 0 _ (by omega) (hx_rf _ _) (hx_rw0 μ1)
    have q3 := hx_tr q2 (hx_xRq f3)
    have hI := hx_I0 (hx_Ir h q3)
    obtain ⟨μ4, μ5, e4, e5, f5, s5, g5⟩ := hx_stBy d hI.2.1 (hx_nv0 h8) hI.2.2.2.2.1 hI.2.2.2.1 (n := k) (by omega)
    have f6 : hx_fr hx_yR μ5 (hs_wI μ5 12 0 1 0) := hx_wr (hx_rf _ _) _ (by unfold hx_yR; omega)
    obtain ⟨μ7, e7, f7, r7⟩ := hx_thR (d + 5) (E := E) (s := hx_by E 255 t k) (t := t) (hx_ERq (hx_tr (hx_qRY (hx_yNq f5)) (hx_yRq f6)) hI.2.1) (hx_SRf f6 (by intro i h x; unfold hx_yR at x; omega) s5) (fun i hi => by rw [f6.1 57 0 i (by unfold hx_yR; omega)]; exact g5 i hi) (hx_P E) 0 _ (by omega) (hx_rf _ _) (hx_rwz μ5)
    refine ⟨hx_by E 255 t k 17, μ3, μ7, ?_, ?_, E, t, hx_Iq1 h q3 r3 ?_ r7⟩
    · rw [hq_H_then, hq_H_then_10, hx_i99, if_pos c, ex, hq_Future_serverThen, e1, hx_bV, show he_Future_serverThen_18 (d + 5) 0 = he_Future_serverThen_18 (d + 5) (nI 0) from rfl, e3, hx_bI]
    · rw [hq_M_then, hx_weeks, hx_bI, hx_tn0, if_pos c, ex, e4, hx_bV, e5, hx_bV, show he_M_then_32 (d + 6) 0 = he_M_then_32 (d + 6) (nI 0) from rfl, e7]
    · exact hx_tr (hx_tr (hx_tr (hx_wr (hx_rf _ _) _ (by unfold hx_qY hx_qR; omega)) (hx_qRY (hx_yNq f5))) (hx_yRq f6)) (hx_yRq f7)
  · apply hx_Anone h (v := -2)
    · rw [hq_H_then, hq_H_then_10, hx_i99, if_neg c]
    · rw [hq_M_then, hx_weeks, hx_bI, hx_tn0, if_neg c]
