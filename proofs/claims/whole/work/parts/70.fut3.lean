/-! ===== E: party, fool ===== -/
def hx_pm (g : Nat → Int32) : Nat → Int32
  | 0 => 0
  | k + 1 => if hx_pm g k < g k then g k else hx_pm g k
def hx_pb (g : Nat → Int32) : Nat → Int32
  | 0 => -1
  | k + 1 => if hx_pm g k < g k then nI k else hx_pb g k
theorem hx_pmS (g : Nat → Int32) (k : Nat) : hx_pm g (k + 1) = if hx_pm g k < g k then g k else hx_pm g k := rfl
theorem hx_pbS (g : Nat → Int32) (k : Nat) : hx_pb g (k + 1) = if hx_pm g k < g k then nI k else hx_pb g k := rfl
def hx_gb (s t : hx_St) : Nat → Int32
  | 0 => 0
  | n + 1 => if 0 < s (8 + n) - t (8 + n) then hx_gb s t n ||| ((1 : Int32) <<< (nI n &&& 31)) else hx_gb s t n
theorem hx_gbS (s t : hx_St) (n : Nat) : hx_gb s t (n + 1) = if 0 < s (8 + n) - t (8 + n) then hx_gb s t n ||| ((1 : Int32) <<< (nI n &&& 31)) else hx_gb s t n := rfl
theorem hx_gaC (d : Nat) {μ : hs_M} {E : hx_Env} (hE : hx_EC μ E) {s t : hx_St} (h1 : hx_SC μ 35 s) (h0 : hx_SC μ 0 t) : ∀ (m k : Nat), k + m = hx_P E → he_Future_gainers_4 (d + 1) (hx_gb s t k) (nI k) μ = some (some (vI (hx_gb s t (hx_P E))), μ)
  | 0, k, hk => by
    have h8 := hE.1.1
    rw [hq_Future_gainers_4, hx_eP hE, if_neg (nI_nlt (by omega) (by omega)), show k = hx_P E from hk]
  | m + 1, k, hk => by
    have h8 := hE.1.1
    have ih := hx_gaC d hE h1 h0 m (k + 1) (by omega)
    rw [hx_gbS] at ih
    rw [hq_Future_gainers_4, hx_eP hE, if_pos (nI_lt (by omega) (by omega)), hx_gain d h1 h0 (by omega), hx_bI, hq_Future_gainers_29, hq_Future_gainers_29, nI_1]
    by_cases c : 0 < s (8 + k) - t (8 + k)
    · rw [if_pos c] at ih ⊢
      exact ih
    · rw [if_neg c] at ih ⊢
      exact ih
theorem hx_SC_R {μ μ' : hs_M} (f : hx_fr hx_xR μ μ') {j : Nat} {t : hx_St} (h : hx_SC μ j t) : hx_SC μ' j t := hx_SCf f (by intro κ i h x; unfold hx_xR at x; omega) h
theorem hx_EC_R {μ μ' : hs_M} (f : hx_fr hx_xR μ μ') {E : hx_Env} (h : hx_EC μ E) : hx_EC μ' E := hx_ECq (hx_xRq f) h
theorem hx_ER_R {μ μ' : hs_M} (f : hx_fr hx_yR μ μ') {E : hx_Env} (h : hx_ER μ E) : hx_ER μ' E := hx_ERq (hx_yRq f) h
theorem hx_SR_R {μ μ' : hs_M} (f : hx_fr hx_yR μ μ') {κ b : Nat} (h1 : κ ≠ 12) (h2 : κ ≠ 40) {t : hx_St} (h : hx_SR μ κ b t) : hx_SR μ' κ b t := hx_SRf f (by intro i h x; unfold hx_yR at x; omega) h
theorem hx_sf_R {μ μ' : hs_M} (f : hx_fr hx_yR μ μ') {t s : hx_St} (h : hx_sf μ t s) : hx_sf μ' t s := fun i hi => by rw [f.1 57 0 i (by unfold hx_yR; omega)]; exact h i hi
theorem hx_paC (d : Nat) {E : hx_Env} {s t : hx_St} {g : Nat → Int32} (hg : ∀ k, g k = hx_gp E s t (nI k) (hx_P E)) : ∀ (m k : Nat) (μ : hs_M), k + m = 4 → hx_EC μ E → hx_SC μ 35 s → hx_SC μ 0 t → hx_rwC μ (hx_ls (fun k => (g k).toInt64) k) → ∃ μ', he_Future_strongestParty_23 (d + 2) (hx_pb g k) (hx_pm g k) (nI k) μ = some (some (vI (hx_pb g 4)), μ') ∧ hx_fr hx_xR μ μ' ∧ hx_rwC μ' (hx_ls (fun k => (g k).toInt64) 4 ++ [(hx_gb s t (hx_P E)).toInt64])
  | 0, k, μ, hk, hE, h1, h0, r => by
    have e : k = 4 := hk
    subst e
    obtain ⟨μ1, e1, f1, r1⟩ := hx_add (d + 1) r (by rw [hx_lsL]; omega) ((hx_gb s t (hx_P E)).toInt64)
    rw [hq_Future_strongestParty_23, if_neg (by decide), hq_Future_gainers, show he_Future_gainers_4 (d + 1) 0 0 μ = he_Future_gainers_4 (d + 1) (hx_gb s t 0) (nI 0) μ from rfl, hx_gaC d hE h1 h0 (hx_P E) 0 (by omega), hx_bI, e1, hx_bV]
    exact ⟨μ1, rfl, f1, r1⟩
  | m + 1, k, μ, hk, hE, h1, h0, r => by
    obtain ⟨μ1, e1, f1, r1⟩ := hx_add (d + 1) r (by rw [hx_lsL]; omega) ((g k).toInt64)
    rw [← hx_lsS (fun k => (g k).toInt64)] at r1
    obtain ⟨μ2, e2, f2, r2⟩ := hx_paC d hg m (k + 1) μ1 (by omega) (hx_EC_R f1 hE) (hx_SC_R f1 h1) (hx_SC_R f1 h0) r1
    rw [hq_Future_strongestParty_23, if_pos (show nI k < (4 : Int32) from nI_lt (b := 4) (by omega) (by omega)), hx_gop d hE h1 h0, ← hg, hx_bI, e1, hx_bV, hq_Future_strongestParty_59, hq_Future_strongestParty_59, nI_1]
    refine ⟨μ2, ?_, hx_tr f1 f2, r2⟩
    rw [← e2, hx_pbS, hx_pmS]
    by_cases c : hx_pm g k < g k
    · rw [if_pos c, if_pos c, if_pos c]
    · rw [if_neg c, if_neg c, if_neg c]
theorem hx_gaR (d : Nat) {E : hx_Env} {s t : hx_St} {b : Int32} {l : List Int64} (hl : l.length < 16) {μ : hs_M} (hE : hx_ER μ E) (h0 : hx_sf μ t s) (r : hx_rwR μ l) : ∀ (m k : Nat), k + m = hx_P E → ∃ μ', he_M_party_90 (d + 1) b (hx_gb s t k) (nI k) μ = some (some (vI b), μ') ∧ hx_fr hx_yR μ μ' ∧ hx_rwR μ' (l ++ [(hx_gb s t (hx_P E)).toInt64])
  | 0, k, hk => by
    have h8 := hE.1.1
    have e : k = hx_P E := hk
    subst e
    obtain ⟨μ1, e1, f1, r1⟩ := hx_ent d r hl ((hx_gb s t (hx_P E)).toInt64)
    rw [hq_M_party_90, hx_rP hE, if_neg (nI_nlt (by omega) (by omega)), e1, hx_bV]
    exact ⟨μ1, rfl, f1, r1⟩
  | m + 1, k, hk => by
    have h8 := hE.1.1
    have ih := hx_gaR d (b := b) hl hE h0 r m (k + 1) (by omega)
    rw [hx_gbS] at ih
    rw [hq_M_party_90, hx_rP hE, if_pos (nI_lt (by omega) (by omega)), if_pos (hx_in (by omega) (by omega)), nI_clamp (by omega), h0 k (by omega), nI_1, Int32.or_zero]
    by_cases c : 0 < s (8 + k) - t (8 + k)
    · rw [if_pos c] at ih ⊢
      exact ih
    · rw [if_neg c] at ih ⊢
      exact ih
theorem hx_paR (d : Nat) {E : hx_Env} {s t : hx_St} {g : Nat → Int32} (hg : ∀ k, g k = hx_gp E s t (nI k) (hx_P E)) : ∀ (m k : Nat) (μ : hs_M), k + m = 4 → hx_ER μ E → hx_sf μ t s → hx_rwR μ (hx_ls (fun k => (g k).toInt64) k) → ∃ μ', he_M_party_40 (d + 1) (hx_pb g k) (hx_pm g k) 0 (nI k) μ = some (some (vI (hx_pb g 4)), μ') ∧ hx_fr hx_yR μ μ' ∧ hx_rwR μ' (hx_ls (fun k => (g k).toInt64) 4 ++ [(hx_gb s t (hx_P E)).toInt64])
  | 0, k, μ, hk, hE, h0, r => by
    have e : k = 4 := hk
    subst e
    rw [hq_M_party_40, if_neg (by decide)]
    exact hx_gaR d (b := hx_pb g 4) (by rw [hx_lsL]; omega) hE h0 r (hx_P E) 0 (by omega)
  | m + 1, k, μ, hk, hE, h0, r => by
    obtain ⟨μ1, e1, f1, r1⟩ := hx_ent d r (by rw [hx_lsL]; omega) ((g k).toInt64)
    rw [← hx_lsS (fun k => (g k).toInt64)] at r1
    obtain ⟨μ2, e2, f2, r2⟩ := hx_paR d hg m (k + 1) μ1 (by omega) (hx_ER_R f1 hE) (hx_sf_R f1 h0) r1
    rw [hq_M_party_40, if_pos (show nI k < (4 : Int32) from nI_lt (b := 4) (by omega) (by omega)), hx_sb d hE h0, ← hg, hx_bI, e1, hx_bV, hx_max, hx_bI, hx_bI, nI_1]
    refine ⟨μ2, ?_, hx_tr f1 f2, r2⟩
    rw [← e2, hx_pbS, hx_pmS]
    unfold hx_mx
    by_cases c : hx_pm g k < g k
    · rw [if_pos c, if_pos c, if_pos c]
    · rw [if_neg c, if_neg c, if_neg c]
theorem hx_party (d : Nat) {n : Nat} (hn : n ≤ 512) {E : hx_Env} {t : hx_St} {μ : hs_M} (h : hx_I n E t μ) (x : Int32) : hx_A n μ (hc_H_party (d + 7) x) (hc_M_party (d + 7) x) := by
  have h8 := h.1.1.1
  by_cases c : hx_rg 0 99 x = true
  · obtain ⟨k, hk, ex⟩ := hx_rgN (n := 99) c
    obtain ⟨μ1, e1, f1, s1⟩ := hx_run d h.1 h.2.2.2.2.1 h.2.2.1.1 255 (n := k) (by omega)
    have q1 := hx_qCX (hx_xSq (by omega) f1)
    have f2 : hx_fr hx_xR μ1 (hs_wI μ1 4 0 1 0) := hx_wr (hx_rf _ _) _ (by unfold hx_xR; omega)
    have q2 := hx_tr q1 (hx_xRq f2)
    obtain ⟨μ3, e3, f3, r3⟩ := hx_paC (d + 3) (g := fun k' => hx_gp E (hx_by E 255 t k) t (nI k') (hx_P E)) (fun _ => rfl) 4 0 _ (by omega) (hx_ECq q2 h.1) (hx_SC_R f2 s1) (hx_SCq q2 (by omega) h.2.2.1.1) (hx_rw0 μ1)
    have q3 := hx_tr q2 (hx_xRq f3)
    have hI := hx_I0 (hx_Ir h q3)
    obtain ⟨μ4, μ5, e4, e5, f5, s5, g5⟩ := hx_stBy d hI.2.1 (hx_nv0 h8) hI.2.2.2.2.1 hI.2.2.2.1 (n := k) (by omega)
    have f6 : hx_fr hx_yR μ5 (hs_wI μ5 12 0 1 0) := hx_wr (hx_rf _ _) _ (by unfold hx_yR; omega)
    obtain ⟨μ7, e7, f7, r7⟩ := hx_paR (d + 5) (E := E) (s := hx_by E 255 t k) (t := t) (g := fun k' => hx_gp E (hx_by E 255 t k) t (nI k') (hx_P E)) (fun _ => rfl) 4 0 _ (by omega) (hx_ERq (hx_tr (hx_qRY (hx_yNq f5)) (hx_yRq f6)) hI.2.1) (hx_sf_R f6 g5) (hx_rwz μ5)
    refine ⟨hx_pb (fun k' => hx_gp E (hx_by E 255 t k) t (nI k') (hx_P E)) 4, μ3, μ7, ?_, ?_, E, t, hx_Iq1 h q3 r3 ?_ r7⟩
    · rw [hq_H_party, hq_H_party_10, hx_i99, if_pos c, ex, hq_Future_strongestParty, e1, hx_bV, show he_Future_strongestParty_23 (d + 5) (-1) 0 0 = he_Future_strongestParty_23 (d + 5) (hx_pb (fun k' => hx_gp E (hx_by E 255 t k) t (nI k') (hx_P E)) 0) (hx_pm (fun k' => hx_gp E (hx_by E 255 t k) t (nI k') (hx_P E)) 0) (nI 0) from rfl, e3, hx_bI]
    · rw [hq_M_party, hx_weeks, hx_bI, hx_tn0, if_pos c, ex, e4, hx_bV, e5, hx_bV, show he_M_party_40 (d + 6) (-1) 0 0 0 = he_M_party_40 (d + 6) (hx_pb (fun k' => hx_gp E (hx_by E 255 t k) t (nI k') (hx_P E)) 0) (hx_pm (fun k' => hx_gp E (hx_by E 255 t k) t (nI k') (hx_P E)) 0) 0 (nI 0) from rfl, e7]
    · exact hx_tr (hx_tr (hx_tr (hx_wr (hx_rf _ _) _ (by unfold hx_qY hx_qR; omega)) (hx_qRY (hx_yNq f5))) (hx_yRq f6)) (hx_yRq f7)
  · apply hx_Anone h (v := -2)
    · rw [hq_H_party, hq_H_party_10, hx_i99, if_neg c]
    · rw [hq_M_party, hx_weeks, hx_bI, hx_tn0, if_neg c]
/-! fool -/
/-- a call that may throw -/
def hx_AT (n : Nat) (μ : hs_M) (c r : hs_M → Option (Option hs_V × hs_M)) : Prop := (∃ v μ1 μ2, c μ = some (some (vI v), μ1) ∧ r μ1 = some (some (vI v), μ2) ∧ μ2.1 12 0 0 = 0 ∧ ∃ E t, hx_I (n + 1) E t μ2) ∨ (∃ v μ1 μ2, c μ = some (none, μ1) ∧ r μ1 = some (some (vI v), μ2) ∧ μ2.1 12 0 0 = 1 ∧ ∃ E t, hx_I (n + 1) E t μ2)
theorem hx_ATf {n : Nat} {E : hx_Env} {t : hx_St} {μ : hs_M} (h : hx_I n E t μ) {c r : hs_M → Option (Option hs_V × hs_M)} {v : Int32} (e1 : c μ = some (none, μ)) (e2 : r μ = some (some (vI v), hs_wI (hs_wI μ 12 0 0 0) 12 0 0 1)) : hx_AT n μ c r :=
  Or.inr ⟨v, μ, _, e1, e2, by rw [hx_rd, if_pos ⟨rfl, rfl, rfl⟩], E, t, hx_Iq0 h (hx_rf _ _) (hx_wr (hx_wr (hx_rf _ _) _ (by unfold hx_qR; omega)) _ (by unfold hx_qR; omega))⟩
theorem hx_nv1 {P p : Nat} (h8 : P ≤ 8) (hp : p < P) : hx_nv P (255 &&& (((1 : Int32) <<< (nI p &&& 31)) ^^^ (-1))) ((1 : Int32) <<< (nI p &&& 31)) := by
  intro i hi
  rw [b_and, b_255, decide_eq_true (by omega), hx_not _ (by omega), Bool.true_and]
theorem hx_fool (d : Nat) {n : Nat} (hn : n ≤ 512) {E : hx_Env} {t : hx_St} {μ : hs_M} (h : hx_I n E t μ) (x y : Int32) : hx_AT n μ (hc_H_fool (d + 7) x y) (hc_M_fool (d + 7) x y) := by
  have h8 := h.1.1.1
  have h0 := hx_I0 (hx_Ia h)
  by_cases c : hx_isP (hx_P E) x = true
  · by_cases c2 : hx_rg 0 99 y = true
    · obtain ⟨k, hk, ey⟩ := hx_rgN (n := 99) c2
      obtain ⟨p, hp, ex⟩ := hx_isPn c
      obtain ⟨μ1, e1, f1, s1⟩ := hx_run d h.1 h.2.2.2.2.1 h.2.2.1.1 255 (n := k) (by omega)
      have q1 := hx_xSq (by omega) f1
      have E1 := hx_ECq (hx_qCX q1) h.1
      have S1 := hx_SCq (hx_qCX q1) (by omega) h.2.2.1.1
      obtain ⟨μ2, e2, f2, s2⟩ := hx_run d E1 h.2.2.2.2.1 S1 (255 &&& (((1 : Int32) <<< (nI p &&& 31)) ^^^ (-1))) (n := k) (by omega)
      have q2 := hx_xSq (by omega) f2
      have E2 := hx_ECq (hx_qCX q2) E1
      have S2 := hx_SCq (hx_qCX q2) (by omega) S1
      obtain ⟨μ3, e3, f3, r3⟩ := hx_begin (d + 3) μ2 (hx_gp E (hx_by E 255 t k) t (hx_Pt E p) (hx_P E)).toInt64
      obtain ⟨μ4, e4, f4, r4⟩ := hx_add (d + 4) r3 (by show 1 < 16; omega) (hx_gp E (hx_by E (255 &&& (((1 : Int32) <<< (nI p &&& 31)) ^^^ (-1))) t k) t (hx_Pt E p) (hx_P E)).toInt64
      have q4 := hx_tr (hx_tr (hx_qCX q1) (hx_qCX q2)) (hx_tr (hx_xRq f3) (hx_xRq f4))
      have hI := hx_I0 (hx_Ir h q4)
      obtain ⟨μ5, μ6, e5, e6, f6, s6, g6⟩ := hx_stBy d hI.2.1 (hx_nv0 h8) hI.2.2.2.2.1 hI.2.2.2.1 (n := k) (by omega)
      have E6 := hx_ERN f6 hI.2.1
      have S6 := hx_SRq (hx_qRY (hx_yNq f6)) hI.2.2.2.1
      obtain ⟨μ7, μ8, e7, e8, f8, s8, g8⟩ := hx_stBy d E6 (hx_nv1 h8 hp) hI.2.2.2.2.1 S6 (n := k) (by omega)
      have E8 := hx_ERN f8 E6
      obtain ⟨μ9, e9, f9, r9⟩ := hx_ent (d + 5) (hx_rwz μ8) (by decide) (hx_gp E (hx_by E 255 t k) t (hx_Pt E p) (hx_P E)).toInt64
      obtain ⟨μ10, e10, f10, r10⟩ := hx_ent (d + 5) r9 (by show 1 < 16; omega) (hx_gp E (hx_by E (255 &&& (((1 : Int32) <<< (nI p &&& 31)) ^^^ (-1))) t k) t (hx_Pt E p) (hx_P E)).toInt64
      refine Or.inl ⟨hx_gp E (hx_by E 255 t k) t (hx_Pt E p) (hx_P E) - hx_gp E (hx_by E (255 &&& (((1 : Int32) <<< (nI p &&& 31)) ^^^ (-1))) t k) t (hx_Pt E p) (hx_P E), μ4, μ10, ?_, ?_, ?_, E, t, hx_Iq1 h q4 r4 ?_ r10⟩
      · rw [hq_H_fool, hx_thas _ h.1, hx_bI, hx_tn0, if_pos c, hx_i99, if_pos c2, ex, ey, hq_Future_foolsWorth, if_pos (hx_in (by omega) (by omega)), nI_clamp (by omega), h.1.2.2.1 p hp, e1, hx_bV, hx_gop _ E1 s1 S1, hx_bI, e2, hx_bV, hx_gop _ E2 s2 S2, hx_bI, e3, hx_bV, e4, hx_bV, hx_bI]
      · rw [hq_M_fool, hx_isPM _ hI.2.1, hx_bI, hx_tn0, if_pos c, hx_weeks, hx_bI, hx_tn0, if_pos c2, ex, ey, e5, hx_bV, e6, hx_bV, if_pos (hx_in (by omega) (by omega)), nI_clamp (by omega), E6.2.2.1 p hp, hx_sb _ E6 g6, hx_bI, e7, hx_bV, e8, hx_bV, if_pos (hx_in (by omega) (by omega)), E8.2.2.1 p hp, hx_sb _ E8 g8, hx_bI, e9, hx_bV, e10, hx_bV]
      · rw [f10.1 12 0 0 (by unfold hx_yR; omega), f9.1 12 0 0 (by unfold hx_yR; omega), hx_rd, if_neg (by omega), f8.1 12 0 0 (by unfold hx_yN; omega), f6.1 12 0 0 (by unfold hx_yN; omega), hx_rd, if_pos ⟨rfl, rfl, rfl⟩]
      · exact hx_tr (hx_tr (hx_tr (hx_tr (hx_wr (hx_rf _ _) _ (by unfold hx_qY hx_qR; omega)) (hx_qRY (hx_yNq f6))) (hx_qRY (hx_yNq f8))) (hx_wr (hx_rf _ _) _ (by unfold hx_qY; omega))) (hx_tr (hx_yRq f9) (hx_yRq f10))
    · apply hx_ATf h (v := 0)
      · rw [hq_H_fool, hx_thas _ h.1, hx_bI, hx_tn0, if_pos c, hx_i99, if_neg c2, hq_H_fool_21]
      · rw [hq_M_fool, hx_isPM _ h0.2.1, hx_bI, hx_tn0, if_pos c, hx_weeks, hx_bI, hx_tn0, if_neg c2, hq_M_fool_20, hq_M_refuse, hx_bI]
  · apply hx_ATf h (v := 0)
    · rw [hq_H_fool, hx_thas _ h.1, hx_bI, hx_tn0, if_neg c, hq_H_fool_21]
    · rw [hq_M_fool, hx_isPM _ h0.2.1, hx_bI, hx_tn0, if_neg c, hq_M_fool_20, hq_M_refuse, hx_bI]
