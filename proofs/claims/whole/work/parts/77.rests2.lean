/-! ===== E: rests: rounds ===== -/
noncomputable def hx_pr (E : hx_Env) (t : hx_St) (n : Nat) (pl : Nat → Int32) : Nat → (Nat → Int32)
  | 0 => pl
  | k + 1 => if bt (t 16) k = true then hx_up (hx_pr E t n pl k) k (hx_bb E t (hx_pr E t n pl k) n k (2 ^ n)) else hx_pr E t n pl k
theorem hx_prS (E : hx_Env) (t : hx_St) (n : Nat) (pl : Nat → Int32) (k : Nat) : hx_pr E t n pl (k + 1) = if bt (t 16) k = true then hx_up (hx_pr E t n pl k) k (hx_bb E t (hx_pr E t n pl k) n k (2 ^ n)) else hx_pr E t n pl k := rfl
noncomputable def hx_tr' (E : hx_Env) (t : hx_St) (n : Nat) (pl : Nat → Int32) : Nat → Bool
  | 0 => false
  | k + 1 => hx_tr' E t n pl k || (bt (t 16) k && decide (hx_bb E t (hx_pr E t n pl k) n k (2 ^ n) ≠ hx_pr E t n pl k k))
theorem hx_trS (E : hx_Env) (t : hx_St) (n : Nat) (pl : Nat → Int32) (k : Nat) : hx_tr' E t n pl (k + 1) = (hx_tr' E t n pl k || (bt (t 16) k && decide (hx_bb E t (hx_pr E t n pl k) n k (2 ^ n) ≠ hx_pr E t n pl k k))) := rfl
theorem hx_turC (d : Nat) {E : hx_Env} {W : Nat} {t : hx_St} (ht : hx_tw (hx_P E) W t) {n : Nat} (hn : W + n < 2 ^ 30) (h4 : n ≤ 4) {pl : Nat → Int32} : ∀ (m k : Nat) (μ : hs_M), k + m = hx_P E → hx_EC μ E → hx_SC μ 0 t → hx_pl μ 36 (hx_pr E t n pl k) → ∃ μ', he_Future_someoneTurns_4 (d + 5) (nI n) (hx_tn (hx_tr' E t n pl k)) (nI k) μ = some (some (vI (hx_tn (hx_tr' E t n pl (hx_P E)))), μ') ∧ hx_fr hx_xP μ μ' ∧ hx_pl μ' 36 (hx_pr E t n pl (hx_P E))
  | 0, k, μ, hk, hE, h0, hpl => by
    have h8 := hE.1.1
    have e : k = hx_P E := hk
    rw [hq_Future_someoneTurns_4, hx_eP hE, if_neg (nI_nlt (by omega) (by omega)), hx_tnz]
    rw [e] at hpl ⊢
    exact ⟨μ, rfl, hx_rf _ _, hpl⟩
  | m + 1, k, μ, hk, hE, h0, hpl => by
    have h8 := hE.1.1
    have j46 : ∀ (μ1 : hs_M) (b : Bool), hx_fr hx_xP μ μ1 → hx_pl μ1 36 (hx_pr E t n pl (k + 1)) → decide (μ1.1 36 0 k ≠ hx_pr E t n pl k k) = b → hx_tr' E t n pl (k + 1) = (hx_tr' E t n pl k || b) → ∃ μ', he_Future_someoneTurns_46 (d + 5) (nI n) (hx_tn (hx_tr' E t n pl k)) (nI k) (hx_pr E t n pl k k) μ1 = some (some (vI (hx_tn (hx_tr' E t n pl (hx_P E)))), μ') ∧ hx_fr hx_xP μ μ' ∧ hx_pl μ' 36 (hx_pr E t n pl (hx_P E)) := by
      intro μ1 b f1 hpl1 e2 e3
      have q1 := hx_qCX (hx_xPq f1)
      obtain ⟨μ2, e4, f2, x2⟩ := hx_turC d ht hn h4 (pl := pl) m (k + 1) μ1 (by omega) (hx_ECq q1 hE) (hx_SCq q1 (by omega) h0) hpl1
      refine ⟨μ2, ?_, hx_tr f1 f2, x2⟩
      rw [hq_Future_someoneTurns_46, hx_tn0, hq_Future_someoneTurns_61, nI_1, if_pos (hx_in (by omega) (by omega)), nI_clamp (by omega), ← e4, e3]
      by_cases c : hx_tr' E t n pl k = true
      · rw [if_pos c, c, Bool.true_or]
        rfl
      · rw [if_neg c]
        rw [Bool.not_eq_true] at c
        rw [c, Bool.false_or, ← e2]
        by_cases z : μ1.1 36 0 k = hx_pr E t n pl k k
        · rw [if_pos z, decide_eq_false (fun x => x z)]
          rfl
        · rw [if_neg z, decide_eq_true z]
          rfl
    rw [hq_Future_someoneTurns_4, hx_eP hE, if_pos (nI_lt (by omega) (by omega)), if_pos (hx_in (by omega) (by omega)), hx_lives _ _ (by omega), hx_bI, hx_tn0, h0.2.2.1, nI_clamp (by omega), hpl k (by omega)]
    by_cases c : bt (t 16) k = true
    · obtain ⟨μ1, e1, f1, x1⟩ := hx_brply d hE ht h0 hn h4 hpl (p := k) (by omega)
      rw [if_pos c, e1, hx_bI, if_pos (hx_in (by omega) (by omega))]
      have hup := hx_upl x1 (hx_bb E t (hx_pr E t n pl k) n k (2 ^ n))
      apply j46 _ (decide (hx_bb E t (hx_pr E t n pl k) n k (2 ^ n) ≠ hx_pr E t n pl k k)) (hx_wr f1 _ (Or.inr (Or.inl rfl)))
      · rw [hx_prS, if_pos c]
        exact hup
      · rw [hx_rd, if_pos ⟨rfl, rfl, rfl⟩]
      · rw [hx_trS, c, Bool.true_and]
    · rw [if_neg c]
      apply j46 μ false (hx_rf _ _)
      · rw [hx_prS, if_neg c]
        exact hpl
      · rw [hpl k (by omega)]
        exact decide_eq_false (fun x => x rfl)
      · rw [Bool.not_eq_true] at c
        rw [hx_trS, c, Bool.false_and]
theorem hx_turR (d : Nat) {E : hx_Env} {W : Nat} {t : hx_St} (ht : hx_tw (hx_P E) W t) {n : Nat} (hn : W + n < 2 ^ 30) (h4 : n ≤ 4) {pl : Nat → Int32} (x2 x3 : Int32) : ∀ (m k : Nat) (μ : hs_M), k + m = hx_P E → hx_ER μ E → hx_SR μ 45 0 t → hx_pl μ 58 (hx_pr E t n pl k) → ∃ μ', he_M_rests_77 (d + 6) (nI n) x2 x3 (hx_tn (!hx_tr' E t n pl k)) (nI k) μ = he_M_rests_61 (d + 6) (nI n) x2 (x3 + 1) (hx_tn (!hx_tr' E t n pl (hx_P E))) μ' ∧ hx_fr hx_yP μ μ' ∧ hx_pl μ' 58 (hx_pr E t n pl (hx_P E))
  | 0, k, μ, hk, hE, hs, hpl => by
    have h8 := hE.1.1
    have e : k = hx_P E := hk
    rw [hq_M_rests_77, hx_rP hE, if_neg (nI_nlt (by omega) (by omega))]
    rw [e] at hpl ⊢
    exact ⟨μ, rfl, hx_rf _ _, hpl⟩
  | m + 1, k, μ, hk, hE, hs, hpl => by
    have h8 := hE.1.1
    have eA : hx_isA (hx_P E) t (nI k) = bt (t 16) k := by
      unfold hx_isA
      rw [hx_isPi (by omega) h8, Bool.true_and, nI_clamp (by omega)]
    have q105 : ∀ μ1 : hs_M, he_M_rests_105 (d + 6) (nI n) x2 x3 (hx_tn (!hx_tr' E t n pl k)) (nI k) μ1 = he_M_rests_77 (d + 6) (nI n) x2 x3 (hx_tn (!hx_tr' E t n pl k)) (nI (k + 1)) μ1 := by
      intro μ1
      rw [hq_M_rests_105, hx_tn0, nI_1]
      cases hx_tr' E t n pl k <;> rfl
    rw [hq_M_rests_77, hx_rP hE, if_pos (nI_lt (by omega) (by omega)), hx_isAM _ hE hs, hx_bI, hx_tn0, eA]
    by_cases c : bt (t 16) k = true
    · obtain ⟨μ1, e1, f1, x1⟩ := hx_plans d hE ht hs hn h4 hpl (p := k) (by omega)
      have q1 := hx_qRY (hx_yPq f1)
      obtain ⟨μ2, e4, f2, y2⟩ := hx_turR d ht hn h4 (pl := pl) x2 x3 m (k + 1) μ1 (by omega) (hx_ERq q1 hE) (hx_SRq q1 hs) (by rw [hx_prS, if_pos c]; exact x1)
      refine ⟨μ2, ?_, hx_tr f1 f2, y2⟩
      rw [if_pos c, e1, hx_bI, hx_tn0, q105, nI_1, ← e4, hx_trS, c, Bool.true_and]
      by_cases z : hx_bb E t (hx_pr E t n pl k) n k (2 ^ n) ≠ hx_pr E t n pl k k
      · rw [decide_eq_true z, if_pos rfl, Bool.or_true]
        rfl
      · rw [decide_eq_false z, if_neg (by decide), Bool.or_false]
    · obtain ⟨μ2, e4, f2, y2⟩ := hx_turR d ht hn h4 (pl := pl) x2 x3 m (k + 1) μ (by omega) hE hs (by rw [hx_prS, if_neg c]; exact hpl)
      refine ⟨μ2, ?_, f2, y2⟩
      rw [if_neg c, q105, ← e4, hx_trS]
      rw [Bool.not_eq_true] at c
      rw [c, Bool.false_and, Bool.or_false]
/-- round by round: plans, whether at rest, how many -/
noncomputable def hx_rr (E : hx_Env) (t : hx_St) (n : Nat) : Nat → (Nat → Int32) → Bool → Nat → (Nat → Int32) × (Bool × Nat)
  | 0, pl, b, r => (pl, b, r)
  | j + 1, pl, b, r => if b = true then (pl, b, r) else hx_rr E t n j (hx_pr E t n pl (hx_P E)) (!hx_tr' E t n pl (hx_P E)) (r + 1)
theorem hx_rrS (E : hx_Env) (t : hx_St) (n j : Nat) (pl : Nat → Int32) (b : Bool) (r : Nat) : hx_rr E t n (j + 1) pl b r = if b = true then (pl, b, r) else hx_rr E t n j (hx_pr E t n pl (hx_P E)) (!hx_tr' E t n pl (hx_P E)) (r + 1) := rfl
def hx_rlst (b : Bool) (pl : Nat → Int32) (k : Nat) : List Int64 := (hx_tn b).toInt64 :: hx_ls (fun p => (pl p).toInt64) k
theorem hx_rlS (b : Bool) (pl : Nat → Int32) (k : Nat) : hx_rlst b pl (k + 1) = hx_rlst b pl k ++ [(pl k).toInt64] := by
  unfold hx_rlst
  rw [hx_lsS]
  rfl
theorem hx_rlL (b : Bool) (pl : Nat → Int32) (k : Nat) : (hx_rlst b pl k).length = k + 1 := by
  unfold hx_rlst
  rw [List.length_cons, hx_lsL]
theorem hx_r79 (d : Nat) {E : hx_Env} (v : Int32) (b : Bool) {pl : Nat → Int32} : ∀ (m k : Nat) (μ : hs_M), k + m = hx_P E → hx_EC μ E → hx_pl μ 36 pl → hx_rwC μ (hx_rlst b pl k) → ∃ μ', he_Future_rounds_79 (d + 1) v (nI k) μ = some (some (vI v), μ') ∧ hx_fr hx_xR μ μ' ∧ hx_rwC μ' (hx_rlst b pl (hx_P E))
  | 0, k, μ, hk, hE, hpl, r => by
    have h8 := hE.1.1
    have e : k = hx_P E := hk
    rw [hq_Future_rounds_79, hx_eP hE, if_neg (nI_nlt (by omega) (by omega))]
    rw [e] at r
    exact ⟨μ, rfl, hx_rf _ _, r⟩
  | m + 1, k, μ, hk, hE, hpl, r => by
    have h8 := hE.1.1
    obtain ⟨μ1, e1, f1, r1⟩ := hx_add d r (by rw [hx_rlL]; omega) (pl k).toInt64
    rw [← hx_rlS] at r1
    obtain ⟨μ2, e2, f2, r2⟩ := hx_r79 d v b m (k + 1) μ1 (by omega) (hx_EC_R f1 hE) (fun i hi => by rw [f1.1 36 0 i (by unfold hx_xR; omega)]; exact hpl i hi) r1
    refine ⟨μ2, ?_, hx_tr f1 f2, r2⟩
    rw [hq_Future_rounds_79, hx_eP hE, if_pos (nI_lt (by omega) (by omega)), if_pos (hx_in (by omega) (by omega)), nI_clamp (by omega), hpl k (by omega), e1, hx_bV, nI_1, e2]
theorem hx_r147 (d : Nat) {E : hx_Env} (v : Int32) (b : Bool) {pl : Nat → Int32} : ∀ (m k : Nat) (μ : hs_M), k + m = hx_P E → hx_ER μ E → hx_pl μ 58 pl → hx_rwR μ (hx_rlst b pl k) → ∃ μ', he_M_rests_147 (d + 1) v (nI k) μ = some (some (vI v), μ') ∧ hx_fr hx_yR μ μ' ∧ hx_rwR μ' (hx_rlst b pl (hx_P E))
  | 0, k, μ, hk, hE, hpl, r => by
    have h8 := hE.1.1
    have e : k = hx_P E := hk
    rw [hq_M_rests_147, hx_rP hE, if_neg (nI_nlt (by omega) (by omega))]
    rw [e] at r
    exact ⟨μ, rfl, hx_rf _ _, r⟩
  | m + 1, k, μ, hk, hE, hpl, r => by
    have h8 := hE.1.1
    obtain ⟨μ1, e1, f1, r1⟩ := hx_ent d r (by rw [hx_rlL]; omega) (pl k).toInt64
    rw [← hx_rlS] at r1
    obtain ⟨μ2, e2, f2, r2⟩ := hx_r147 d v b m (k + 1) μ1 (by omega) (hx_ER_R f1 hE) (fun i hi => by rw [f1.1 58 0 i (by unfold hx_yR; omega)]; exact hpl i hi) r1
    refine ⟨μ2, ?_, hx_tr f1 f2, r2⟩
    rw [hq_M_rests_147, hx_rP hE, if_pos (nI_lt (by omega) (by omega)), if_pos (hx_in (by omega) (by omega)), nI_clamp (by omega), hpl k (by omega), e1, hx_bV, nI_1, e2]
theorem hx_roC (d : Nat) {E : hx_Env} {W : Nat} {t : hx_St} (ht : hx_tw (hx_P E) W t) {n : Nat} (hn : W + n < 2 ^ 30) (h4 : n ≤ 4) {M : Nat} (hM : M ≤ 20) : ∀ (j r : Nat) (pl : Nat → Int32) (b : Bool) (μ : hs_M), r + j = M → hx_EC μ E → hx_SC μ 0 t → hx_pl μ 36 pl → ∃ μ', he_Future_rounds_30 (d + 6) (nI n) (nI M) (hx_tn b) (nI r) μ = some (some (vI (nI (hx_rr E t n j pl b r).2.2)), μ') ∧ hx_fr hx_qX μ μ' ∧ hx_rwC μ' (hx_rlst (hx_rr E t n j pl b r).2.1 (hx_rr E t n j pl b r).1 (hx_P E)) := by
  have fin : ∀ (pl : Nat → Int32) (b : Bool) (r : Nat) (μ : hs_M), hx_EC μ E → hx_pl μ 36 pl → ∃ μ', he_Future_rounds_60 (d + 6) (hx_tn b) (nI r) μ = some (some (vI (nI r)), μ') ∧ hx_fr hx_qX μ μ' ∧ hx_rwC μ' (hx_rlst b pl (hx_P E)) := by
    intro pl b r μ hE hpl
    obtain ⟨μ1, e1, f1, r1⟩ := hx_begin (d + 4) μ (hx_tn b).toInt64
    obtain ⟨μ2, e2, f2, r2⟩ := hx_r79 (d + 5) (E := E) (nI r) b (pl := pl) (hx_P E) 0 μ1 (by omega) (hx_EC_R f1 hE) (fun i hi => by rw [f1.1 36 0 i (by unfold hx_xR; omega)]; exact hpl i hi) r1
    refine ⟨μ2, ?_, hx_xRq (hx_tr f1 f2), r2⟩
    rw [hq_Future_rounds_60, hx_tn0]
    cases b
    · rw [if_neg (by decide), show (0 : Int64) = (hx_tn false).toInt64 from by decide, e1, hx_bV, show (0 : Int32) = nI 0 from rfl, e2]
    · rw [if_pos rfl, show (1 : Int64) = (hx_tn true).toInt64 from by decide, e1, hx_bV, show (0 : Int32) = nI 0 from rfl, e2]
  intro j
  induction j with
  | zero =>
    intro r pl b μ hr hE h0 hpl
    obtain ⟨μ', e, f, w⟩ := fin pl b r μ hE hpl
    refine ⟨μ', ?_, f, w⟩
    rw [hq_Future_rounds_30, if_neg (nI_nlt (by omega) (by omega)), e]
    rfl
  | succ j ih =>
    intro r pl b μ hr hE h0 hpl
    rw [hx_rrS]
    by_cases c : b = true
    · obtain ⟨μ', e, f, w⟩ := fin pl b r μ hE hpl
      rw [if_pos c]
      refine ⟨μ', ?_, f, w⟩
      rw [hq_Future_rounds_30, if_pos (nI_lt (by omega) (by omega)), hx_tn0, if_pos c, e]
    · rw [if_neg c]
      obtain ⟨μ1, e1, f1, x1⟩ := hx_turC d ht hn h4 (pl := pl) (hx_P E) 0 μ (by omega) hE h0 hpl
      have q1 := hx_qCX (hx_xPq f1)
      obtain ⟨μ2, e2, f2, w2⟩ := ih (r + 1) (hx_pr E t n pl (hx_P E)) (!hx_tr' E t n pl (hx_P E)) μ1 (by omega) (hx_ECq q1 hE) (hx_SCq q1 (by omega) h0) x1
      refine ⟨μ2, ?_, hx_tr q1 f2, w2⟩
      rw [hq_Future_rounds_30, if_pos (nI_lt (by omega) (by omega)), hx_tn0, if_neg c, hq_Future_someoneTurns, show he_Future_someoneTurns_4 (d + 5) (nI n) 0 0 μ = he_Future_someoneTurns_4 (d + 5) (nI n) (hx_tn (hx_tr' E t n pl 0)) (nI 0) μ from rfl, e1, hx_bI, hx_tn0, nI_1, ← e2]
      cases hx_tr' E t n pl (hx_P E) <;> rfl
theorem hx_roR (d : Nat) {E : hx_Env} {W : Nat} {t : hx_St} (ht : hx_tw (hx_P E) W t) {n : Nat} (hn : W + n < 2 ^ 30) (h4 : n ≤ 4) {M : Nat} (hM : M ≤ 20) : ∀ (j r : Nat) (pl : Nat → Int32) (b : Bool) (μ : hs_M), r + j = M → hx_ER μ E → hx_SR μ 45 0 t → hx_pl μ 58 pl → ∃ μ', he_M_rests_61 (d + 6) (nI n) (nI M) (nI r) (hx_tn b) μ = some (some (vI (nI (hx_rr E t n j pl b r).2.2)), μ') ∧ hx_fr hx_qY μ μ' ∧ hx_rwR μ' (hx_rlst (hx_rr E t n j pl b r).2.1 (hx_rr E t n j pl b r).1 (hx_P E)) := by
  have fin : ∀ (pl : Nat → Int32) (b : Bool) (r : Nat) (μ : hs_M), hx_ER μ E → hx_pl μ 58 pl → ∃ μ', he_M_rests_129 (d + 6) (nI r) (hx_tn b) μ = some (some (vI (nI r)), μ') ∧ hx_fr hx_qY μ μ' ∧ hx_rwR μ' (hx_rlst b pl (hx_P E)) := by
    intro pl b r μ hE hpl
    have f0 : hx_fr hx_yR μ (hs_wI μ 12 0 1 0) := hx_wr (hx_rf _ _) _ (by unfold hx_yR; omega)
    obtain ⟨μ1, e1, f1, r1⟩ := hx_ent (d + 5) (hx_rwz μ) (by decide) (hx_tn b).toInt64
    have f01 := hx_tr f0 f1
    obtain ⟨μ2, e2, f2, r2⟩ := hx_r147 (d + 5) (E := E) (nI r) b (pl := pl) (hx_P E) 0 μ1 (by omega) (hx_ER_R f01 hE) (fun i hi => by rw [f01.1 58 0 i (by unfold hx_yR; omega)]; exact hpl i hi) r1
    refine ⟨μ2, ?_, hx_yRq (hx_tr f01 f2), r2⟩
    rw [hq_M_rests_129, hx_flag, hx_bI, e1, hx_bV, show he_M_rests_147 (d + 6) (nI r) 0 μ1 = he_M_rests_147 (d + 6) (nI r) (nI 0) μ1 from rfl, e2]
  intro j
  induction j with
  | zero =>
    intro r pl b μ hr hE h0 hpl
    obtain ⟨μ', e, f, w⟩ := fin pl b r μ hE hpl
    refine ⟨μ', ?_, f, w⟩
    rw [hq_M_rests_61, if_neg (nI_nlt (by omega) (by omega)), e]
    rfl
  | succ j ih =>
    intro r pl b μ hr hE h0 hpl
    rw [hx_rrS]
    by_cases c : b = true
    · obtain ⟨μ', e, f, w⟩ := fin pl b r μ hE hpl
      rw [if_pos c]
      refine ⟨μ', ?_, f, w⟩
      rw [hq_M_rests_61, if_pos (nI_lt (by omega) (by omega)), hx_tn0, if_pos c, e]
    · rw [if_neg c]
      obtain ⟨μ1, e1, f1, x1⟩ := hx_turR d ht hn h4 (pl := pl) (nI M) (nI r) (hx_P E) 0 μ (by omega) hE h0 hpl
      have q1 := hx_qRY (hx_yPq f1)
      obtain ⟨μ2, e2, f2, w2⟩ := ih (r + 1) (hx_pr E t n pl (hx_P E)) (!hx_tr' E t n pl (hx_P E)) μ1 (by omega) (hx_ERq q1 hE) (hx_SRq q1 h0) x1
      refine ⟨μ2, ?_, hx_tr q1 f2, w2⟩
      rw [hq_M_rests_61, if_pos (nI_lt (by omega) (by omega)), hx_tn0, if_neg c, show he_M_rests_77 (d + 6) (nI n) (nI M) (nI r) 1 0 μ = he_M_rests_77 (d + 6) (nI n) (nI M) (nI r) (hx_tn (!hx_tr' E t n pl 0)) (nI 0) μ from rfl, e1, nI_1, e2]
theorem hx_fillC (d : Nat) (x1 x2 : Int32) {v : Int32} (hv : ((1 : Int32) <<< (x1 &&& 31)) - 1 = v) {μ0 : hs_M} : ∀ (m k : Nat) (μ : hs_M), k + m = 8 → hx_fr (fun κ _ _ => κ = 36) μ0 μ → (∀ i, i < k → μ.1 36 0 i = v) → ∃ μ', he_Future_rounds_2 d x1 x2 (nI k) μ = he_Future_rounds_30 d x1 x2 0 0 μ' ∧ hx_fr (fun κ _ _ => κ = 36) μ0 μ' ∧ hx_pl μ' 36 (fun _ => v)
  | 0, k, μ, hk, f, h => by
    rw [hq_Future_rounds_2, if_neg (show ¬ nI k < (8 : Int32) from nI_nlt (b := 8) (by omega) (by omega))]
    exact ⟨μ, rfl, f, fun i hi => h i (by omega)⟩
  | m + 1, k, μ, hk, f, h => by
    rw [hq_Future_rounds_2, if_pos (show nI k < (8 : Int32) from nI_lt (b := 8) (by omega) (by omega)), if_pos (hx_in (by omega) (by omega)), nI_clamp (by omega), nI_1, hv]
    apply hx_fillC d x1 x2 hv m (k + 1) _ (by omega) (hx_wr f _ rfl)
    intro i hi
    rw [hx_rd]
    by_cases c : i = k
    · rw [if_pos ⟨rfl, c, rfl⟩]
    · rw [if_neg (by omega), h i (by omega)]
theorem hx_fillR (d : Nat) (x1 x2 : Int32) {v : Int32} (hv : ((1 : Int32) <<< (x1 &&& 31)) - 1 = v) {μ0 : hs_M} : ∀ (m k : Nat) (μ : hs_M), k + m = 8 → hx_fr (fun κ _ _ => κ = 58) μ0 μ → (∀ i, i < k → μ.1 58 0 i = v) → ∃ μ', he_M_rests_33 d x1 x2 (nI k) μ = he_M_rests_61 d x1 x2 0 0 μ' ∧ hx_fr (fun κ _ _ => κ = 58) μ0 μ' ∧ hx_pl μ' 58 (fun _ => v)
  | 0, k, μ, hk, f, h => by
    rw [hq_M_rests_33, if_neg (show ¬ nI k < (8 : Int32) from nI_nlt (b := 8) (by omega) (by omega))]
    exact ⟨μ, rfl, f, fun i hi => h i (by omega)⟩
  | m + 1, k, μ, hk, f, h => by
    rw [hq_M_rests_33, if_pos (show nI k < (8 : Int32) from nI_lt (b := 8) (by omega) (by omega)), if_pos (hx_in (by omega) (by omega)), nI_clamp (by omega), nI_1, hv]
    apply hx_fillR d x1 x2 hv m (k + 1) _ (by omega) (hx_wr f _ rfl)
    intro i hi
    rw [hx_rd]
    by_cases c : i = k
    · rw [if_pos ⟨rfl, c, rfl⟩]
    · rw [if_neg (by omega), h i (by omega)]
theorem hx_rests (d : Nat) {n : Nat} (hn : n ≤ 512) {E : hx_Env} {t : hx_St} {μ : hs_M} (h : hx_I n E t μ) (x y : Int32) : hx_A n μ (hc_H_rests (d + 8) x y) (hc_M_rests (d + 8) x y) := by
  have h8 := h.1.1.1
  have h0 := hx_I0 (hx_Ia h)
  have ec : ∀ A B : Option (Option hs_V × hs_M), (if x < 1 then A else if 4 < x then A else B) = if hx_rg 1 4 x = true then B else A := fun A B => hx_if2 x 1 4 A B
  have ed : ∀ A B : Option (Option hs_V × hs_M), (if y < 0 then A else if 20 < y then A else B) = if hx_rg 0 20 y = true then B else A := fun A B => hx_if2 y 0 20 A B
  have er : hx_rg (Int64.toInt 1) (Int64.toInt 4) x = hx_rg 1 4 x := rfl
  have es : hx_rg (Int64.toInt 0) (Int64.toInt 20) y = hx_rg 0 20 y := rfl
  by_cases c : hx_rg 1 4 x = true
  · by_cases c2 : hx_rg 0 20 y = true
    · obtain ⟨k, hk1, hk, ex⟩ := hx_rg1 (n := 4) c
      obtain ⟨M, hM, ey⟩ := hx_rgN (n := 20) c2
      obtain ⟨μ1, e1, f1, p1⟩ := hx_fillC (d + 6) x y (v := ((1 : Int32) <<< (x &&& 31)) - 1) rfl 8 0 μ (by omega) (hx_rf _ _) (fun i hi => absurd hi (by omega))
      have q1 : hx_fr hx_qC μ μ1 := hx_mo (fun κ b i x => by unfold hx_qC; omega) f1
      obtain ⟨μ2, e2, f2, r2⟩ := hx_roC d (E := E) h.2.2.2.2.1 (n := k) (by omega) hk hM M 0 _ false μ1 (by omega) (hx_ECq (hx_qCX q1) h.1) (hx_SCq (hx_qCX q1) (by omega) h.2.2.1.1) p1
      have q2 := hx_tr (hx_qCX q1) f2
      have hI := hx_I0 (hx_Ir h q2)
      obtain ⟨μ3, e3, f3, p3⟩ := hx_fillR (d + 7) x y (v := ((1 : Int32) <<< (x &&& 31)) - 1) rfl 8 0 (hs_wI μ2 12 0 0 0) (by omega) (hx_rf _ _) (fun i hi => absurd hi (by omega))
      have q3 : hx_fr hx_qR _ μ3 := hx_mo (fun κ b i x => by unfold hx_qR; omega) f3
      obtain ⟨μ4, e4, f4, r4⟩ := hx_roR (d + 1) (E := E) h.2.2.2.2.1 (n := k) (by omega) hk hM M 0 _ false μ3 (by omega) (hx_ERq (hx_qRY q3) hI.2.1) (hx_SRq (hx_qRY q3) hI.2.2.2.1) p3
      refine ⟨nI (hx_rr E t k M (fun _ => ((1 : Int32) <<< (x &&& 31)) - 1) false 0).2.2, μ2, μ4, ?_, ?_, E, t, hx_Iq1 h q2 r2 (hx_tr (hx_tr (hx_wr (hx_rf _ _) _ (by unfold hx_qY hx_qR; omega)) (hx_qRY q3)) f4) r4⟩
      · rw [hq_H_rests, hq_H_rests_20, ec, if_pos c, ed, if_pos c2, hq_Future_rounds, show he_Future_rounds_2 (d + 6) x y 0 μ = he_Future_rounds_2 (d + 6) x y (nI 0) μ from rfl, e1]
        rw [ex, ey] at *
        rw [show he_Future_rounds_30 (d + 6) (nI k) (nI M) 0 0 μ1 = he_Future_rounds_30 (d + 6) (nI k) (nI M) (hx_tn false) (nI 0) μ1 from rfl, e2, hx_bI]
      · rw [hq_M_rests, hx_inR, hx_bI, hx_tn0, er, if_pos c, hx_inR, hx_bI, hx_tn0, es, if_pos c2, show he_M_rests_33 (d + 7) x y 0 (hs_wI μ2 12 0 0 0) = he_M_rests_33 (d + 7) x y (nI 0) (hs_wI μ2 12 0 0 0) from rfl, e3]
        rw [ex, ey] at *
        rw [show he_M_rests_61 (d + 7) (nI k) (nI M) 0 0 μ3 = he_M_rests_61 (d + 7) (nI k) (nI M) (nI 0) (hx_tn false) μ3 from rfl, e4]
    · apply hx_Anone h (v := -1)
      · rw [hq_H_rests, hq_H_rests_20, ec, if_pos c, ed, if_neg c2]
      · rw [hq_M_rests, hx_inR, hx_bI, hx_tn0, er, if_pos c, hx_inR, hx_bI, hx_tn0, es, if_neg c2, hq_M_rests_29]
  · apply hx_Anone h (v := -1)
    · rw [hq_H_rests, hq_H_rests_20, ec, if_neg c]
    · rw [hq_M_rests, hx_inR, hx_bI, hx_tn0, er, if_neg c, hq_M_rests_29]
