/-! ===== E: cheapest ===== -/
noncomputable def hx_cok (E : hx_Env) (t : hx_St) (p k : Nat) : Bool := decide (hx_stp E (hx_fd t p (nI k)) (hx_mS E p (hx_fd t p (nI k)) true) 17 = nI p)
def hx_o1 : Option Nat → Int32
  | none => -1
  | some k => nI k
theorem hx_st17 {E : hx_Env} (h8 : hx_P E ≤ 8) {s : hx_St} {W : Nat} (ht : hx_tw (hx_P E) W s) (S : Nat → Bool) : hx_stp E s S 17 = hx_wo s (hx_win E s S (hx_P E)) := by
  unfold hx_stp
  exact hx_f17 h8 (hx_winw rfl ht S).2
theorem hx_m1i {L : Nat} (h : L ≤ 2000) : (nI L - 1).toInt = (L : Int) - 1 := pk_sub_toInt (a := L) (b := 1) (by omega) (by omega)
theorem hx_cnw (d : Nat) {E : hx_Env} {W : Nat} {t : hx_St} (ht : hx_tw (hx_P E) W t) (hW : W < 2 ^ 30) {p : Nat} (hp : p < hx_P E) {L : Nat} (hL : L ≤ 1000) : ∀ (m k : Nat) (μ : hs_M), k + m = L → hx_EC μ E → hx_SC μ 0 t → ∃ μ', he_Trials_cakesForNextWeek_13 (d + 3) (nI p) (nI L - 1) (nI k) μ = some (some (vI (hx_o1 (hx_f1 (hx_cok E t p) m k))), μ') ∧ hx_fr (hx_xS 36) μ μ'
  | 0, k, μ, hk, hE, h0 => by
    rw [hq_Trials_cakesForNextWeek_13, if_pos (by rw [hx_li, hx_m1i (by omega), nI_toInt (by omega)]; omega)]
    exact ⟨μ, rfl, hx_rf _ _⟩
  | m + 1, k, μ, hk, hE, h0 => by
    have h8 := hE.1.1
    have tw := hx_fdtw h8 ht hp (nI k)
    obtain ⟨μ1, e1, f1, s1⟩ := hx_feast d h0 (p := p) (by omega) (nI k)
    obtain ⟨μ2, e2, f2⟩ := hx_winner d (hx_ECS f1 hE) tw s1 ((1 : Int32) <<< (nI p &&& 31)) (255 &&& (((1 : Int32) <<< (nI p &&& 31)) ^^^ (-1)))
    have ew : hx_sa E (hx_fd t p (nI k)) ((1 : Int32) <<< (nI p &&& 31)) (255 &&& (((1 : Int32) <<< (nI p &&& 31)) ^^^ (-1))) = hx_mS E p (hx_fd t p (nI k)) true := rfl
    rw [ew] at e2
    have f12 := hx_tr f1 (hx_xWS 36 f2)
    obtain ⟨μ3, e3, f3⟩ := hx_cnw d ht hW hp hL m (k + 1) μ2 (by omega) (hx_ECS f12 hE) (hx_SCS f12 h0)
    have e17 := hx_st17 h8 tw (hx_mS E p (hx_fd t p (nI k)) true)
    rw [hq_Trials_cakesForNextWeek_13, if_neg (by rw [hx_li, hx_m1i (by omega), nI_toInt (by omega)]; omega), e1, hx_bV, e2, hx_bI, hq_Trials_cakesForNextWeek_74, hq_Trials_cakesForNextWeek_77, nI_1, (hx_SCS f12 h0).2.2.2.1, hx_f1S]
    have yes : hx_stp E (hx_fd t p (nI k)) (hx_mS E p (hx_fd t p (nI k)) true) 17 = nI p → ∃ μ', some (some (vI (nI k)), μ2) = some (some (vI (hx_o1 (if hx_cok E t p k = true then some k else hx_f1 (hx_cok E t p) m (k + 1)))), μ') ∧ hx_fr (hx_xS 36) μ μ' := by
      intro c
      rw [if_pos (show hx_cok E t p k = true from decide_eq_true c)]
      exact ⟨μ2, rfl, f12⟩
    have no : hx_stp E (hx_fd t p (nI k)) (hx_mS E p (hx_fd t p (nI k)) true) 17 ≠ nI p → ∃ μ', he_Trials_cakesForNextWeek_13 (d + 3) (nI p) (nI L - 1) (nI (k + 1)) μ2 = some (some (vI (hx_o1 (if hx_cok E t p k = true then some k else hx_f1 (hx_cok E t p) m (k + 1)))), μ') ∧ hx_fr (hx_xS 36) μ μ' := by
      intro c
      rw [if_neg (show ¬ hx_cok E t p k = true by unfold hx_cok; rw [decide_eq_false c]; decide), e3]
      exact ⟨μ3, rfl, hx_tr f12 f3⟩
    rw [e17] at yes no
    unfold hx_wo at yes no
    have ne : nI p ≠ (-1 : Int32) := by
      intro z
      have := nI_pos (n := p) (by omega)
      rw [z] at this
      exact this hx_m1
    by_cases c1 : hx_win E (hx_fd t p (nI k)) (hx_mS E p (hx_fd t p (nI k)) true) (hx_P E) = nI p
    · rw [if_pos c1]
      exact yes (by rw [c1, if_neg ne])
    · rw [if_neg c1]
      by_cases c2 : hx_win E (hx_fd t p (nI k)) (hx_mS E p (hx_fd t p (nI k)) true) (hx_P E) = -1
      · rw [if_pos c2]
        rw [c2, if_pos rfl, hx_fdO _ _ (by omega)] at yes no
        by_cases c3 : t 17 = nI p
        · rw [if_pos c3]
          exact yes c3
        · rw [if_neg c3]
          exact no c3
      · rw [if_neg c2]
        exact no (by rw [if_neg c2]; exact c1)
theorem hx_cfor (d : Nat) {μ : hs_M} {E : hx_Env} (hE : hx_EC μ E) {W : Nat} {t : hx_St} (ht : hx_tw (hx_P E) W t) (hW : W < 2 ^ 30) (h0 : hx_SC μ 0 t) {p : Nat} (hp : p < hx_P E) {F : Nat} (hF : F ≤ 1000) : ∃ μ', hc_Trials_cakesForNextWeek (d + 4) (nI p) (nI F - 1) μ = some (some (vI (hx_o1 (hx_f1 (hx_cok E t p) F 0))), μ') ∧ hx_fr (hx_xS 36) μ μ' := by
  have h8 := hE.1.1
  obtain ⟨wt, hw1, hw9, ew⟩ := ht.2.2.2 p hp
  have em : hx_mn (nI F - 1) (nI (999 - wt)) = nI (min F (1000 - wt)) - 1 := by
    unfold hx_mn
    by_cases c : 1000 - wt < F
    · rw [if_pos (by rw [hx_li, hx_m1i (by omega), nI_toInt (by omega)]; omega), show min F (1000 - wt) = 999 - wt + 1 by omega, nI_pred]
    · rw [if_neg (by rw [hx_li, hx_m1i (by omega), nI_toInt (by omega)]; omega), show min F (1000 - wt) = F by omega]
  obtain ⟨μ1, e1, f1⟩ := hx_cnw d ht hW hp (L := min F (1000 - wt)) (by omega) (min F (1000 - wt)) 0 μ (by omega) hE h0
  have same : hx_f1 (hx_cok E t p) (min F (1000 - wt)) 0 = hx_f1 (hx_cok E t p) F 0 := by
    by_cases c : 1000 - wt < F
    · have := hx_f1x (ok := hx_cok E t p) (1000 - wt) 0 (F - (1000 - wt)) (by
        intro j h1 h2 h3
        refine ⟨999 - wt, by omega, by omega, ?_⟩
        unfold hx_cok at h3 ⊢
        rw [hx_fdx (b := j) ew hw1 hw9 (by omega) (by omega) (by omega) (by omega)]
        exact h3)
      rw [show 1000 - wt + (F - (1000 - wt)) = F by omega] at this
      rw [show min F (1000 - wt) = 1000 - wt by omega, this]
    · rw [show min F (1000 - wt) = F by omega]
  rw [hq_Trials_cakesForNextWeek, hx_worth _ h0 (by omega) hw1 hw9 ew, hx_bI, hx_min, hx_bI, em, show he_Trials_cakesForNextWeek_13 (d + 3) (nI p) (nI (min F (1000 - wt)) - 1) 0 μ = he_Trials_cakesForNextWeek_13 (d + 3) (nI p) (nI (min F (1000 - wt)) - 1) (nI 0) μ from rfl, e1, same]
  exact ⟨μ1, rfl, f1⟩
/-- who is cheapest of the first, by how many -/
noncomputable def hx_lf (E : hx_Env) (t : hx_St) : Nat → Int32 × Nat
  | 0 => (-2, 1000)
  | k + 1 => if bt (t 16) k = true then (match hx_f1 (hx_cok E t k) (hx_lf E t k).2 0 with
    | none => hx_lf E t k
    | some c => (nI k, c)) else hx_lf E t k
theorem hx_lfS (E : hx_Env) (t : hx_St) (k : Nat) : hx_lf E t (k + 1) = if bt (t 16) k = true then (match hx_f1 (hx_cok E t k) (hx_lf E t k).2 0 with
    | none => hx_lf E t k
    | some c => (nI k, c)) else hx_lf E t k := rfl
theorem hx_lfle (E : hx_Env) (t : hx_St) : ∀ k, (hx_lf E t k).2 ≤ 1000 ∧ ((hx_lf E t k).1 = -2 ∨ ∃ q, q < k ∧ (hx_lf E t k).1 = nI q)
  | 0 => ⟨Nat.le_refl _, Or.inl rfl⟩
  | k + 1 => by
    obtain ⟨a, b⟩ := hx_lfle E t k
    have b' : (hx_lf E t k).1 = -2 ∨ ∃ q, q < k + 1 ∧ (hx_lf E t k).1 = nI q := by
      rcases b with b | ⟨q, h, e⟩
      · exact Or.inl b
      · exact Or.inr ⟨q, by omega, e⟩
    rw [hx_lfS]
    by_cases c : bt (t 16) k = true
    · rw [if_pos c]
      cases e : hx_f1 (hx_cok E t k) (hx_lf E t k).2 0 with
      | none => exact ⟨a, b'⟩
      | some j =>
        have := hx_f1r _ _ e
        exact ⟨by show j ≤ 1000; omega, Or.inr ⟨k, by omega, rfl⟩⟩
    · rw [if_neg c]
      exact ⟨a, b'⟩
/-- the row, if somebody is -/
def hx_lo (x : Int32 × Nat) : Option Nat := if x.1 < 0 then none else some x.2
theorem hx_lfC (d : Nat) {E : hx_Env} {W : Nat} {t : hx_St} (ht : hx_tw (hx_P E) W t) (hW : W < 2 ^ 30) : ∀ (m k : Nat) (μ : hs_M), k + m = hx_P E → hx_EC μ E → hx_SC μ 0 t → ∃ μ', he_Trials_leastFed_9 (d + 4) (hx_lf E t k).1 (nI (hx_lf E t k).2) (nI k) μ = some (some (vI (hx_lf E t (hx_P E)).1), μ') ∧ hx_orC μ μ' (fun c => (nI c).toInt64) (hx_lo (hx_lf E t (hx_P E)))
  | 0, k, μ, hk, hE, h0 => by
    have h8 := hE.1.1
    have e : k = hx_P E := hk
    subst e
    rw [hq_Trials_leastFed_9, hx_eP hE, if_neg (nI_nlt (by omega) (by omega)), hq_Trials_leastFed_75]
    unfold hx_lo
    by_cases c : (hx_lf E t (hx_P E)).1 < 0
    · rw [if_pos c, if_pos c]
      exact ⟨μ, rfl, hx_rf _ _⟩
    · obtain ⟨μ1, e1, f1, r1⟩ := hx_begin (d + 2) μ (nI (hx_lf E t (hx_P E)).2).toInt64
      rw [if_neg c, if_neg c, e1, hx_bV, hq_Trials_leastFed_75]
      exact ⟨μ1, rfl, hx_xRq f1, r1⟩
  | m + 1, k, μ, hk, hE, h0 => by
    have h8 := hE.1.1
    have hF := (hx_lfle E t k).1
    have go : ∀ μ1, hx_fr (hx_xS 36) μ μ1 → ∃ μ', he_Trials_leastFed_9 (d + 4) (hx_lf E t (k + 1)).1 (nI (hx_lf E t (k + 1)).2) (nI (k + 1)) μ1 = some (some (vI (hx_lf E t (hx_P E)).1), μ') ∧ hx_orC μ μ' (fun c => (nI c).toInt64) (hx_lo (hx_lf E t (hx_P E))) := by
      intro μ1 f1
      obtain ⟨μ2, e2, o2⟩ := hx_lfC d ht hW m (k + 1) μ1 (by omega) (hx_ECS f1 hE) (hx_SCS f1 h0)
      exact ⟨μ2, e2, hx_orCt (hx_xSq (j := 36) (by omega) f1) o2⟩
    rw [hx_lfS] at go
    rw [hq_Trials_leastFed_9, hx_eP hE, if_pos (nI_lt (by omega) (by omega)), hx_lives _ _ (by omega), hx_bI, hx_tn0, h0.2.2.1, if_pos rfl, hq_Trials_leastFed_56, nI_1]
    by_cases c : bt (t 16) k = true
    · rw [if_pos c]
      obtain ⟨μ1, e1, f1⟩ := hx_cfor d hE ht hW h0 (p := k) (by omega) hF
      have g1 := go μ1 f1
      rw [if_pos c] at g1
      rw [e1, hx_bI, hq_Trials_leastFed_56, hq_Trials_leastFed_56, nI_1]
      cases e : hx_f1 (hx_cok E t k) (hx_lf E t k).2 0 with
      | none =>
        rw [e] at g1
        rw [if_pos (show hx_o1 none = -1 from rfl)]
        exact g1
      | some j =>
        rw [e] at g1
        have := hx_f1r _ _ e
        have ne : nI j ≠ (-1 : Int32) := by
          intro z
          have := nI_pos (n := j) (by omega)
          rw [z] at this
          exact this hx_m1
        rw [if_neg (show ¬ hx_o1 (some j) = -1 from ne)]
        exact g1
    · rw [if_neg c]
      have g1 := go μ (hx_rf _ _)
      rw [if_neg c] at g1
      exact g1
theorem hx_chS {E : hx_Env} (h8 : hx_P E ≤ 8) {p : Nat} (hp : p < hx_P E) (s : hx_St) : hx_stp E s (bt (hx_wb E s (hx_P E) ||| ((1 : Int32) <<< (nI p &&& 31)))) = hx_stp E s (hx_mS E p s true) := by
  apply hx_stc
  intro q hq al
  rw [b_or, hx_wbt E s (by omega) _ (by omega), hx_one (by omega) (by omega), al, decide_eq_true hq]
  unfold hx_mS hx_sa
  rw [if_pos rfl, hx_one (by omega) (by omega), hx_bo (by omega) (by omega)]
  by_cases z : q = p
  · rw [decide_eq_true z, Bool.or_true, Bool.true_or]
  · rw [decide_eq_false z, decide_eq_true z, Bool.or_false, Bool.false_or, Bool.true_and]
theorem hx_chR (d : Nat) {E : hx_Env} {W : Nat} {t : hx_St} (ht : hx_tw (hx_P E) W t) (hW : W < 2 ^ 30) {p : Nat} (hp : p < hx_P E) (b : Int32) {F : Nat} (hF : F ≤ 1000) : ∀ (m k : Nat) (μ : hs_M), k + m = F → hx_ER μ E → hx_SR μ 45 0 t → ∃ μ', he_M_cheapest_36 (d + 5) b (nI F) (nI p) (nI k) μ = (match hx_f1 (hx_cok E t p) m k with
    | none => he_M_cheapest_14 (d + 5) b (nI F) (nI (p + 1)) μ'
    | some c => he_M_cheapest_14 (d + 5) (nI p) (nI c) (nI (p + 1)) μ') ∧ hx_fr hx_yN μ μ'
  | 0, k, μ, hk, hE, hs => by
    rw [hq_M_cheapest_36, if_neg (nI_nlt (by omega) (by omega)), nI_1]
    exact ⟨μ, rfl, hx_rf _ _⟩
  | m + 1, k, μ, hk, hE, hs => by
    have h8 := hE.1.1
    have tw := hx_fdtw h8 ht hp (nI k)
    obtain ⟨μ1, e1, f1, s1, g1⟩ := hx_stWith (d + 2) hs (p := p) (by omega) (nI k)
    have E1 := hx_ERN f1 hE
    obtain ⟨μ2, e2, f2⟩ := hx_willing d (κ := 46) (Or.inr (Or.inl rfl)) E1 tw s1
    have f2' : hx_fr hx_yN μ1 μ2 := hx_mo (fun κ b i x => Or.inl x) f2
    have g2 : hx_sf μ2 t (hx_fd t p (nI k)) := fun i hi => by
      rw [f2.1 57 0 i (by unfold hx_xV; omega)]
      exact g1 i hi
    obtain ⟨μ3, e3, f3, s3, g3⟩ := hx_goNext (d + 1) (hx_ERV f2 E1) hW tw (hx_SRV f2 (κ := 46) (by omega) s1) g2 (hx_wb E (hx_fd t p (nI k)) (hx_P E) ||| ((1 : Int32) <<< (nI p &&& 31)))
    rw [hx_chS h8 hp] at s3
    have f13 := hx_tr (hx_tr f1 f2') f3
    rw [hq_M_cheapest_36, if_pos (nI_lt (by omega) (by omega)), e1, hx_bV, e2, hx_bI, e3, hx_bV, hx_SR0 s3 (by omega), hx_f1S, hq_M_cheapest_81, hq_M_cheapest_81, nI_1]
    by_cases c : hx_stp E (hx_fd t p (nI k)) (hx_mS E p (hx_fd t p (nI k)) true) 17 = nI p
    · rw [if_pos c, if_pos (show hx_cok E t p k = true from decide_eq_true c), hq_M_cheapest_36, if_neg (nI_nlt (by omega) (by omega)), nI_1]
      exact ⟨μ3, rfl, f13⟩
    · obtain ⟨μ4, e4, f4⟩ := hx_chR d ht hW hp b hF m (k + 1) μ3 (by omega) (hx_ERN f13 hE) (hx_SRq (hx_qRY (hx_yNq f13)) hs)
      rw [if_neg c, if_neg (show ¬ hx_cok E t p k = true by unfold hx_cok; rw [decide_eq_false c]; decide), e4]
      exact ⟨μ4, rfl, hx_tr f13 f4⟩
theorem hx_lfR (d : Nat) {E : hx_Env} {W : Nat} {t : hx_St} (ht : hx_tw (hx_P E) W t) (hW : W < 2 ^ 30) : ∀ (m k : Nat) (μ : hs_M), k + m = hx_P E → hx_ER μ E → hx_SR μ 45 0 t → ∃ μ', he_M_cheapest_14 (d + 5) (hx_lf E t k).1 (nI (hx_lf E t k).2) (nI k) μ = some (some (vI (hx_lf E t (hx_P E)).1), μ') ∧ hx_orR μ μ' (fun c => (nI c).toInt64) (hx_lo (hx_lf E t (hx_P E)))
  | 0, k, μ, hk, hE, hs => by
    have h8 := hE.1.1
    have e : k = hx_P E := hk
    subst e
    rw [hq_M_cheapest_14, hx_rP hE, if_neg (nI_nlt (by omega) (by omega))]
    unfold hx_lo
    by_cases c : (hx_lf E t (hx_P E)).1 < 0
    · rw [if_pos c, if_pos c]
      refine ⟨μ, ?_, hx_rf _ _⟩
      rcases (hx_lfle E t (hx_P E)).2 with z | ⟨q, hq, z⟩
      · rw [z]
      · rw [z] at c
        exact absurd c (nI_pos (by omega))
    · have f0 : hx_fr hx_yR μ (hs_wI μ 12 0 1 0) := hx_wr (hx_rf _ _) _ (by unfold hx_yR; omega)
      obtain ⟨μ1, e1, f1, r1⟩ := hx_ent (d + 4) (hx_rwz μ) (by decide) (nI (hx_lf E t (hx_P E)).2).toInt64
      rw [if_neg c, if_neg c, e1, hx_bV]
      exact ⟨μ1, rfl, hx_yRq (hx_tr f0 f1), r1⟩
  | m + 1, k, μ, hk, hE, hs => by
    have h8 := hE.1.1
    have hF := (hx_lfle E t k).1
    have eA : hx_isA (hx_P E) t (nI k) = bt (t 16) k := by
      unfold hx_isA
      rw [hx_isPi (by omega) h8, Bool.true_and, nI_clamp (by omega)]
    have go : ∀ μ1, hx_fr hx_yN μ μ1 → ∃ μ', he_M_cheapest_14 (d + 5) (hx_lf E t (k + 1)).1 (nI (hx_lf E t (k + 1)).2) (nI (k + 1)) μ1 = some (some (vI (hx_lf E t (hx_P E)).1), μ') ∧ hx_orR μ μ' (fun c => (nI c).toInt64) (hx_lo (hx_lf E t (hx_P E))) := by
      intro μ1 f1
      obtain ⟨μ2, e2, o2⟩ := hx_lfR d ht hW m (k + 1) μ1 (by omega) (hx_ERN f1 hE) (hx_SRq (hx_qRY (hx_yNq f1)) hs)
      exact ⟨μ2, e2, hx_orRt (hx_yNq f1) o2⟩
    rw [hx_lfS] at go
    rw [hq_M_cheapest_14, hx_rP hE, if_pos (nI_lt (by omega) (by omega)), hx_isAM _ hE hs, hx_bI, hx_tn0, eA, nI_1]
    by_cases c : bt (t 16) k = true
    · rw [if_pos c]
      obtain ⟨μ1, e1, f1⟩ := hx_chR d ht hW (p := k) (by omega) (hx_lf E t k).1 hF (hx_lf E t k).2 0 μ (by omega) hE hs
      have g1 := go μ1 f1
      rw [if_pos c] at g1
      rw [show he_M_cheapest_36 (d + 5) (hx_lf E t k).1 (nI (hx_lf E t k).2) (nI k) 0 μ = he_M_cheapest_36 (d + 5) (hx_lf E t k).1 (nI (hx_lf E t k).2) (nI k) (nI 0) μ from rfl, e1]
      cases e : hx_f1 (hx_cok E t k) (hx_lf E t k).2 0 with
      | none =>
        rw [e] at g1
        exact g1
      | some j =>
        rw [e] at g1
        exact g1
    · rw [if_neg c]
      have g1 := go μ (hx_rf _ _)
      rw [if_neg c] at g1
      exact g1
theorem hx_cheapest (d : Nat) {n : Nat} (hn : n ≤ 512) {E : hx_Env} {t : hx_St} {μ : hs_M} (h : hx_I n E t μ) : hx_A n μ (hc_H_cheapest (d + 6)) (hc_M_cheapest (d + 6)) := by
  obtain ⟨μ1, e1, o1⟩ := hx_lfC d h.2.2.2.2.1 (by omega) (hx_P E) 0 μ (by omega) h.1 h.2.2.1.1
  have hI := hx_I0 (hx_Ir h (hx_orX o1))
  obtain ⟨μ2, e2, o2⟩ := hx_lfR d h.2.2.2.2.1 (by omega) (hx_P E) 0 _ (by omega) hI.2.1 hI.2.2.2.1
  refine ⟨(hx_lf E t (hx_P E)).1, μ1, μ2, ?_, ?_, E, t, hx_Iqo h o1 (hx_orRt (hx_wr (hx_rf _ _) _ (by unfold hx_qR; omega)) o2)⟩
  · rw [hq_H_cheapest, hq_Trials_leastFed, show he_Trials_leastFed_9 (d + 4) (-2) 1000 0 μ = he_Trials_leastFed_9 (d + 4) (hx_lf E t 0).1 (nI (hx_lf E t 0).2) (nI 0) μ from rfl, e1, hx_bI]
  · rw [hq_M_cheapest]
    exact e2
