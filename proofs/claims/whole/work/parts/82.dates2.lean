/-! ===== E: explains, absent ===== -/
def hx_sn (ok : Nat → Bool) : Nat → Nat
  | 0 => 0
  | k + 1 => if ok k = true then hx_sn ok k + 1 else hx_sn ok k
def hx_s1 (ok : Nat → Bool) (val : Nat → Int32) : Nat → Int32
  | 0 => 0
  | k + 1 => if ok k = true then (if hx_sn ok k = 0 then val k else hx_s1 ok val k) else hx_s1 ok val k
def hx_s2 (ok : Nat → Bool) (val : Nat → Int32) : Nat → Int32
  | 0 => 0
  | k + 1 => if ok k = true then val k else hx_s2 ok val k
theorem hx_snS (ok : Nat → Bool) (k : Nat) : hx_sn ok (k + 1) = if ok k = true then hx_sn ok k + 1 else hx_sn ok k := rfl
theorem hx_s1S (ok : Nat → Bool) (val : Nat → Int32) (k : Nat) : hx_s1 ok val (k + 1) = if ok k = true then (if hx_sn ok k = 0 then val k else hx_s1 ok val k) else hx_s1 ok val k := rfl
theorem hx_s2S (ok : Nat → Bool) (val : Nat → Int32) (k : Nat) : hx_s2 ok val (k + 1) = if ok k = true then val k else hx_s2 ok val k := rfl
theorem hx_snle (ok : Nat → Bool) : ∀ k, hx_sn ok k ≤ k
  | 0 => Nat.le_refl 0
  | k + 1 => by
    have := hx_snle ok k
    rw [hx_snS]
    split <;> omega
theorem hx_sn0 {ok : Nat → Bool} {val : Nat → Int32} : ∀ N, (∀ k, k < N → ok k = false) → hx_sn ok N = 0 ∧ hx_s1 ok val N = 0 ∧ hx_s2 ok val N = 0
  | 0, _ => ⟨rfl, rfl, rfl⟩
  | N + 1, h => by
    obtain ⟨a, b, c⟩ := hx_sn0 (val := val) N (fun k hk => h k (by omega))
    rw [hx_snS, hx_s1S, hx_s2S, h N (by omega), if_neg (by decide), if_neg (by decide), if_neg (by decide)]
    exact ⟨a, b, c⟩
def hx_r2 (n : Nat) (f l : Int32) : List Int64 := if n = 0 then [] else [f.toInt64, l.toInt64]
theorem hx_range (d : Nat) {n : Nat} (hn : n < 2 ^ 31) (f l : Int32) (μ : hs_M) : ∃ μ', hc_Row_range (d + 2) (nI n) f l μ = some (none, μ') ∧ hx_fr hx_xR μ μ' ∧ hx_rwC μ' (hx_r2 n f l) := by
  have f0 : hx_fr hx_xR μ (hs_wI μ 4 0 1 0) := hx_wr (hx_rf _ _) _ (by unfold hx_xR; omega)
  rw [hq_Row_range, hq_Row_range_21]
  unfold hx_r2
  by_cases c : n = 0
  · rw [if_neg (by rw [c]; decide), if_pos c]
    exact ⟨_, rfl, f0, hx_rw0 μ⟩
  · obtain ⟨μ1, e1, f1, r1⟩ := hx_add d (hx_rw0 μ) (by decide) f.toInt64
    obtain ⟨μ2, e2, f2, r2⟩ := hx_add d r1 (by show 1 < 16; omega) l.toInt64
    rw [if_pos (show (0 : Int32) < nI n from nI_lt (a := 0) (by omega) hn), if_neg c, e1, hx_bV, e2, hx_bV, hq_Row_range_21]
    exact ⟨μ2, rfl, hx_tr (hx_tr f0 f1) f2, r2⟩
theorem hx_tells (d : Nat) {n : Nat} (hn : n < 2 ^ 31) (f l : Int32) (μ : hs_M) : ∃ μ', hc_M_tellsSpan (d + 2) (nI n) f l μ = some (none, μ') ∧ hx_fr hx_yR μ μ' ∧ hx_rwR μ' (hx_r2 n f l) := by
  have f0 : hx_fr hx_yR μ (hs_wI μ 12 0 1 0) := hx_wr (hx_rf _ _) _ (by unfold hx_yR; omega)
  rw [hq_M_tellsSpan, hq_M_tellsSpan_21]
  unfold hx_r2
  by_cases c : n = 0
  · rw [if_neg (by rw [c]; decide), if_pos c]
    exact ⟨_, rfl, f0, hx_rwz μ⟩
  · obtain ⟨μ1, e1, f1, r1⟩ := hx_ent d (hx_rwz μ) (by decide) f.toInt64
    obtain ⟨μ2, e2, f2, r2⟩ := hx_ent d r1 (by show 1 < 16; omega) l.toInt64
    rw [if_pos (show (0 : Int32) < nI n from nI_lt (a := 0) (by omega) hn), if_neg c, e1, hx_bV, e2, hx_bV, hq_M_tellsSpan_21]
    exact ⟨μ2, rfl, hx_tr (hx_tr f0 f1) f2, r2⟩
/-- the state in which p weighs k + 1 -/
def hx_sE (t : hx_St) (p k : Nat) : hx_St := hx_fd t p (nI (k + 1) - t p)
theorem hx_sEp (t : hx_St) (p : Nat) {k : Nat} (hk : k < 999) : hx_sE t p k p = nI (k + 1) := by
  unfold hx_sE hx_fd
  rw [if_pos rfl, Int32.add_comm, Int32.sub_add_cancel]
  unfold hx_ic
  rw [if_neg (show ¬ nI (k + 1) < (1 : Int32) from nI_nlt (b := 1) (by omega) (by omega)), if_neg (show ¬ (999 : Int32) < nI (k + 1) from nI_nlt (a := 999) (by omega) (by omega))]
noncomputable def hx_eok (E : hx_Env) (t : hx_St) (M : Nat) (pw wk : Nat → Nat) (p k : Nat) : Bool := hx_is E 255 (hx_sE t p k) M pw wk
def hx_ev (k : Nat) : Int32 := nI (k + 1)
theorem hx_exC (d : Nat) {E : hx_Env} {W : Nat} {t : hx_St} (ht : hx_tw (hx_P E) W t) (hW : W + 60 < 2 ^ 30) {M : Nat} {pw wk : Nat → Nat} (hO : hx_dO (hx_P E) M pw wk) {p : Nat} (hp : p < hx_P E) : ∀ (m k : Nat) (μ : hs_M), k + m = 999 → hx_EC μ E → hx_SC μ 0 t → hx_due μ pw wk M → ∃ μ', he_Trials_explainingWeights_28 (d + 5) (nI p) (nI (hx_sn (hx_eok E t M pw wk p) k)) (hx_s1 (hx_eok E t M pw wk p) hx_ev k) (hx_s2 (hx_eok E t M pw wk p) hx_ev k) 999 (nI (k + 1)) μ = some (some (vI (nI (hx_sn (hx_eok E t M pw wk p) 999))), μ') ∧ hx_fr hx_qX μ μ' ∧ hx_rwC μ' (hx_r2 (hx_sn (hx_eok E t M pw wk p) 999) (hx_s1 (hx_eok E t M pw wk p) hx_ev 999) (hx_s2 (hx_eok E t M pw wk p) hx_ev 999))
  | 0, k, μ, hk, hE, h0, hd => by
    have e : k = 999 := hk
    subst e
    have := hx_snle (hx_eok E t M pw wk p) 999
    obtain ⟨μ1, e1, f1, r1⟩ := hx_range (d + 3) (n := hx_sn (hx_eok E t M pw wk p) 999) (by omega) (hx_s1 (hx_eok E t M pw wk p) hx_ev 999) (hx_s2 (hx_eok E t M pw wk p) hx_ev 999) μ
    rw [hq_Trials_explainingWeights_28, if_pos (show (999 : Int32) < nI (999 + 1) from nI_lt (a := 999) (by omega) (by omega)), e1, hx_bV]
    exact ⟨μ1, rfl, hx_xRq f1, r1⟩
  | m + 1, k, μ, hk, hE, h0, hd => by
    have h8 := hE.1.1
    have sl := hx_snle (hx_eok E t M pw wk p) k
    obtain ⟨μ1, e1, f1, s1⟩ := hx_feast (d + 2) h0 (p := p) (by omega) (nI (k + 1) - t p)
    obtain ⟨μ2, e2, f2⟩ := hx_comes d (hx_ECS f1 hE) (hx_fdtw h8 ht hp _) hW 255 hO s1 (hx_dueS f1 hd)
    have f12 := hx_tr f1 f2
    obtain ⟨μ3, e3, f3, r3⟩ := hx_exC d ht hW hO hp m (k + 1) μ2 (by omega) (hx_ECS f12 hE) (hx_SCS f12 h0) (hx_dueS f12 hd)
    refine ⟨μ3, ?_, hx_tr (hx_xSX f12) f3, r3⟩
    rw [hq_Trials_explainingWeights_28, if_neg (show ¬ (999 : Int32) < nI (k + 1) from nI_nlt (a := 999) (by omega) (by omega)), if_pos (hx_in (by omega) (by omega)), nI_clamp (by omega), h0.1 p (by omega), e1, hx_bV, e2, hx_bI, hx_tn0, hq_Trials_explainingWeights_82, hq_Trials_explainingWeights_82, hq_Trials_explainingWeights_82, nI_1, ← e3, hx_snS, hx_s1S, hx_s2S, show hx_is E 255 (hx_fd t p (nI (k + 1) - t p)) M pw wk = hx_eok E t M pw wk p k from rfl]
    by_cases c : hx_eok E t M pw wk p k = true
    · rw [if_pos c, if_pos c, if_pos c, if_pos c, nI_1]
      by_cases z : hx_sn (hx_eok E t M pw wk p) k = 0
      · rw [if_pos (by rw [z]; rfl), if_pos z]
        rfl
      · rw [if_neg (nI_ne0 (by omega) (by omega)), if_neg z]
        rfl
    · rw [if_neg c, if_neg c, if_neg c, if_neg c, nI_1]
theorem hx_exR (d : Nat) {E : hx_Env} {W : Nat} {t : hx_St} (ht : hx_tw (hx_P E) W t) (hW : W + 60 < 2 ^ 30) {M : Nat} {pw wk : Nat → Nat} (hO : hx_dO (hx_P E) M pw wk) {p : Nat} (hp : p < hx_P E) : ∀ (m k : Nat) (μ : hs_M), k + m = 999 → hx_ER μ E → hx_SR μ 45 0 t → hx_dR μ M pw wk → ∃ μ', he_M_explains_25 (d + 7) (nI p) (nI (hx_sn (hx_eok E t M pw wk p) k)) (hx_s1 (hx_eok E t M pw wk p) hx_ev k) (hx_s2 (hx_eok E t M pw wk p) hx_ev k) (nI (k + 1)) μ = some (some (vI (nI (hx_sn (hx_eok E t M pw wk p) 999))), μ') ∧ hx_fr hx_qY μ μ' ∧ hx_rwR μ' (hx_r2 (hx_sn (hx_eok E t M pw wk p) 999) (hx_s1 (hx_eok E t M pw wk p) hx_ev 999) (hx_s2 (hx_eok E t M pw wk p) hx_ev 999))
  | 0, k, μ, hk, hE, h0, hd => by
    have e : k = 999 := hk
    subst e
    have := hx_snle (hx_eok E t M pw wk p) 999
    obtain ⟨μ1, e1, f1, r1⟩ := hx_tells (d + 5) (n := hx_sn (hx_eok E t M pw wk p) 999) (by omega) (hx_s1 (hx_eok E t M pw wk p) hx_ev 999) (hx_s2 (hx_eok E t M pw wk p) hx_ev 999) μ
    rw [hq_M_explains_25, if_pos (show (999 : Int32) < nI (999 + 1) from nI_lt (a := 999) (by omega) (by omega)), e1, hx_bV]
    exact ⟨μ1, rfl, hx_yRq f1, r1⟩
  | m + 1, k, μ, hk, hE, h0, hd => by
    have h8 := hE.1.1
    have sl := hx_snle (hx_eok E t M pw wk p) k
    obtain ⟨μ1, e1, f1, s1, g1⟩ := hx_starts (d + 5) h0
    have f1' : hx_fr hx_yN μ (hs_wI μ1 46 0 p (nI (k + 1))) := hx_wr f1 _ (by unfold hx_yN; omega)
    have s1' : hx_SR (hs_wI μ1 46 0 p (nI (k + 1))) 46 0 (hx_sE t p k) := by
      apply hx_SRw s1
      · exact hx_sEp t p (by omega)
      · intro i _ z
        exact hx_fdO _ _ z
    obtain ⟨μ2, e2, f2⟩ := hx_isSo d (t0 := t) (hx_ERN f1' hE) (hx_fdtw h8 ht hp _) hW (hx_nv0 h8) hO s1' (fun i hi => by rw [hx_rd, if_neg (by omega), g1 i hi, hx_fdO _ _ (by omega)]; exact (Int32.sub_self _).symm) (hx_dRN f1' hd)
    have f12 := hx_tr f1' f2
    obtain ⟨μ3, e3, f3, r3⟩ := hx_exR d ht hW hO hp m (k + 1) μ2 (by omega) (hx_ERN f12 hE) (hx_SRq (hx_qRY (hx_yNq f12)) h0) (hx_dRN f12 hd)
    refine ⟨μ3, ?_, hx_tr (hx_qRY (hx_yNq f12)) f3, r3⟩
    rw [hq_M_explains_25, if_neg (show ¬ (999 : Int32) < nI (k + 1) from nI_nlt (a := 999) (by omega) (by omega)), e1, hx_bV, if_pos (hx_in (by omega) (by omega)), nI_clamp (by omega), e2, hx_bI, hx_tn0, hq_M_explains_71, hq_M_explains_71, hq_M_explains_71, nI_1, ← e3, hx_snS, hx_s1S, hx_s2S, show hx_is E 255 (hx_fd t p (nI (k + 1) - t p)) M pw wk = hx_eok E t M pw wk p k from rfl]
    by_cases c : hx_eok E t M pw wk p k = true
    · rw [if_pos c, if_pos c, if_pos c, if_pos c, nI_1]
      by_cases z : hx_sn (hx_eok E t M pw wk p) k = 0
      · rw [if_pos (by rw [z]; rfl), if_pos z]
        rfl
      · rw [if_neg (nI_ne0 (by omega) (by omega)), if_neg z]
        rfl
    · rw [if_neg c, if_neg c, if_neg c, if_neg c, nI_1]
theorem hx_xDuq {μ μ' : hs_M} (f : hx_fr hx_xDu μ μ') : hx_fr hx_qC μ μ' := hx_mo (fun κ b i x => by unfold hx_xDu at x; unfold hx_qC; omega) f
theorem hx_dRX {μ μ' : hs_M} (f : hx_fr hx_qX μ μ') {M : Nat} {pw wk : Nat → Nat} (h : hx_dR μ M pw wk) : hx_dR (hs_wI μ' 12 0 0 0) M pw wk := by
  refine ⟨by rw [hx_rd, if_neg (by omega), f.1 12 0 37 (by unfold hx_qX hx_qC; omega)]; exact h.1, fun k hk => ?_⟩
  rw [hx_rd, if_neg (by omega), f.1 61 0 k (by unfold hx_qX hx_qC; omega), hx_rd, if_neg (by omega), f.1 62 0 k (by unfold hx_qX hx_qC; omega)]
  exact h.2 k hk
theorem hx_explains (d : Nat) {n : Nat} (hn : n ≤ 512) {E : hx_Env} {t : hx_St} {μ : hs_M} (h : hx_I n E t μ) (x : Int32) : hx_A n μ (hc_H_explains (d + 8) x) (hc_M_explains (d + 8) x) := by
  have h8 := h.1.1.1
  have h0 := hx_I0 (hx_Ia h)
  obtain ⟨M, pw, wk, hO, hC, hR⟩ := hx_iDx h8 h.2.2.2.2.2.2.2.2.2.2
  by_cases c : hx_isA (hx_P E) t x = true
  · obtain ⟨p, hp, ex, al⟩ := hx_isAn h8 c
    obtain ⟨μ1, b, e1, f1, g1, g2⟩ := hx_gather (d + 4) h8 hO hC
    have q1 := hx_qCX (hx_xDuq f1)
    have E1 := hx_ECq q1 h.1
    have S1 := hx_SCq q1 (by omega) h.2.2.1.1
    have fin : ∃ μ2, (if hx_tn b = 0 then he_Trials_explainingWeights_28 (d + 6) (nI p) 0 0 0 0 1 μ1 else he_Trials_explainingWeights_28 (d + 6) (nI p) 0 0 0 999 1 μ1) = some (some (vI (nI (hx_sn (hx_eok E t M pw wk p) 999))), μ2) ∧ hx_fr hx_qX μ1 μ2 ∧ hx_rwC μ2 (hx_r2 (hx_sn (hx_eok E t M pw wk p) 999) (hx_s1 (hx_eok E t M pw wk p) hx_ev 999) (hx_s2 (hx_eok E t M pw wk p) hx_ev 999)) := by
      rw [hx_tn0]
      by_cases cb : b = true
      · rw [if_pos cb]
        exact hx_exC (d + 1) h.2.2.2.2.1 (by omega) hO hp 999 0 μ1 (by omega) E1 S1 (g1 cb)
      · rw [if_neg cb]
        rw [Bool.not_eq_true] at cb
        obtain ⟨i, j, hi, hj, e, ne⟩ := g2 cb
        obtain ⟨z1, z2, z3⟩ := hx_sn0 (ok := hx_eok E t M pw wk p) (val := hx_ev) 999 (fun k _ => hx_conf h8 hO hi hj e ne)
        rw [z1, z2, z3]
        obtain ⟨μ2, e2, f2, r2⟩ := hx_range (d + 4) (n := 0) (by omega) 0 0 μ1
        rw [hq_Trials_explainingWeights_28, if_pos (by decide), show hc_Row_range (d + 6) 0 0 0 μ1 = hc_Row_range (d + 6) (nI 0) 0 0 μ1 from rfl, e2, hx_bV]
        exact ⟨μ2, rfl, hx_xRq f2, r2⟩
    obtain ⟨μ2, e2, f2, r2⟩ := fin
    have q2 := hx_tr q1 f2
    have hI := hx_I0 (hx_Ir h q2)
    obtain ⟨μ3, e3, f3, r3⟩ := hx_exR d h.2.2.2.2.1 (by omega) hO hp 999 0 _ (by omega) hI.2.1 hI.2.2.2.1 (hx_dRX q2 hR)
    refine ⟨nI (hx_sn (hx_eok E t M pw wk p) 999), μ2, μ3, ?_, ?_, E, t, hx_Iq1 h q2 r2 (hx_tr (hx_wr (hx_rf _ _) _ (by unfold hx_qY hx_qR; omega)) f3) r3⟩
    · rw [hq_H_explains, hx_there _ h.1 h.2.2.1.1, hx_bI, hx_tn0, if_pos c, hq_Trials_explainingWeights, e1, hx_bI, ex, e2, hx_bI]
    · rw [hq_M_explains, hx_isAM _ hI.2.1 hI.2.2.2.1, hx_bI, hx_tn0, if_pos c, ex]
      exact e3
  · apply hx_Anone h (v := -1)
    · rw [hq_H_explains, hx_there _ h.1 h.2.2.1.1, hx_bI, hx_tn0, if_neg c]
    · rw [hq_M_explains, hx_isAM _ h0.2.1 h0.2.2.2.1, hx_bI, hx_tn0, if_neg c]
/-! absent -/
noncomputable def hx_aok (E : hx_Env) (t : hx_St) (M : Nat) (pw wk : Nat → Nat) (p : Nat) : Bool := bt (t 16) p && hx_is E (hx_oth p) t M pw wk
theorem hx_abC (d : Nat) {E : hx_Env} {W : Nat} {t : hx_St} (ht : hx_tw (hx_P E) W t) (hW : W + 60 < 2 ^ 30) {M : Nat} {pw wk : Nat → Nat} (hO : hx_dO (hx_P E) M pw wk) {b : Bool} (hb : b = false → ∃ i j, i < M ∧ j < M ∧ wk i = wk j ∧ pw i ≠ pw j) : ∀ (m k : Nat) (μ : hs_M), k + m = hx_P E → hx_EC μ E → hx_SC μ 0 t → (b = true → hx_due μ pw wk M) → ∃ μ', he_Trials_explainingAbsences_48 (d + 5) (hx_tn b) (hx_bits (hx_aok E t M pw wk) k) (nI k) μ = some (some (vI (hx_bits (hx_aok E t M pw wk) (hx_P E))), μ') ∧ hx_fr (hx_xS 36) μ μ'
  | 0, k, μ, hk, hE, h0, hd => by
    have h8 := hE.1.1
    rw [hq_Trials_explainingAbsences_48, hx_eP hE, if_neg (nI_nlt (by omega) (by omega)), show k = hx_P E from hk]
    exact ⟨μ, rfl, hx_rf _ _⟩
  | m + 1, k, μ, hk, hE, h0, hd => by
    have h8 := hE.1.1
    obtain ⟨μ1, e1, f1, s1⟩ := hx_follow (d + 4) (j := 36) h0 (by omega)
    have f1' : hx_fr (hx_xS 36) μ μ1 := hx_mo (fun κ b i x => by unfold hx_xS; omega) f1
    have go : ∀ μ2, hx_fr (hx_xS 36) μ μ2 → ∃ μ', he_Trials_explainingAbsences_48 (d + 5) (hx_tn b) (hx_bits (hx_aok E t M pw wk) (k + 1)) (nI (k + 1)) μ2 = some (some (vI (hx_bits (hx_aok E t M pw wk) (hx_P E))), μ') ∧ hx_fr (hx_xS 36) μ μ' := by
      intro μ2 f2
      obtain ⟨μ3, e3, f3⟩ := hx_abC d ht hW hO hb m (k + 1) μ2 (by omega) (hx_ECS f2 hE) (hx_SCS f2 h0) (fun z => hx_dueS f2 (hd z))
      exact ⟨μ3, e3, hx_tr f2 f3⟩
    rw [hx_bitsS] at go
    rw [hq_Trials_explainingAbsences_48, hx_eP hE, if_pos (nI_lt (by omega) (by omega)), e1, hx_bV, hx_tn0, hq_Trials_explainingAbsences_111, nI_1]
    by_cases cb : b = true
    · rw [if_pos cb, hx_lives _ _ (by omega), hx_bI, hx_tn0, (hx_SCS f1' h0).2.2.1, hq_Trials_explainingAbsences_111, nI_1]
      by_cases c : bt (t 16) k = true
      · obtain ⟨μ2, e2, f2⟩ := hx_comes d (hx_ECS f1' hE) ht hW (hx_oth k) hO s1 (hx_dueS f1' (hd cb))
        have g := go μ2 (hx_tr f1' f2)
        rw [if_pos c, show (255 &&& (((1 : Int32) <<< (nI k &&& 31)) ^^^ (-1))) = hx_oth k from rfl, e2, hx_bI, hx_tn0, hq_Trials_explainingAbsences_111, hq_Trials_explainingAbsences_111, nI_1]
        rw [show hx_aok E t M pw wk k = hx_is E (hx_oth k) t M pw wk by unfold hx_aok; rw [c, Bool.true_and]] at g
        by_cases z : hx_is E (hx_oth k) t M pw wk = true
        · rw [if_pos z] at g ⊢
          exact g
        · rw [if_neg z] at g ⊢
          exact g
      · have g := go μ1 f1'
        rw [if_neg c]
        rw [Bool.not_eq_true] at c
        rw [show hx_aok E t M pw wk k = false by unfold hx_aok; rw [c, Bool.false_and], if_neg (by decide)] at g
        exact g
    · rw [if_neg cb]
      rw [Bool.not_eq_true] at cb
      obtain ⟨i, j, hi, hj, e, ne⟩ := hb cb
      have g := go μ1 f1'
      rw [show hx_aok E t M pw wk k = false by unfold hx_aok; rw [hx_conf h8 hO hi hj e ne, Bool.and_false], if_neg (by decide)] at g
      exact g
theorem hx_abR (d : Nat) {E : hx_Env} {W : Nat} {t : hx_St} (ht : hx_tw (hx_P E) W t) (hW : W + 60 < 2 ^ 30) {M : Nat} {pw wk : Nat → Nat} (hO : hx_dO (hx_P E) M pw wk) : ∀ (m k : Nat) (μ : hs_M), k + m = hx_P E → hx_ER μ E → hx_SR μ 45 0 t → hx_dR μ M pw wk → ∃ μ', he_M_absent_9 (d + 7) (hx_bits (hx_aok E t M pw wk) k) (nI k) μ = some (some (vI (hx_bits (hx_aok E t M pw wk) (hx_P E))), μ') ∧ hx_fr hx_qY μ μ' ∧ hx_rwR μ' [(hx_tn (hx_is E 255 t M pw wk)).toInt64]
  | 0, k, μ, hk, hE, hs, hd => by
    have h8 := hE.1.1
    obtain ⟨μ1, e1, f1, s1, g1⟩ := hx_starts (d + 5) hs
    have f0 : hx_fr hx_yR μ1 (hs_wI μ1 12 0 1 0) := hx_wr (hx_rf _ _) _ (by unfold hx_yR; omega)
    obtain ⟨μ2, e2, f2⟩ := hx_isSo d (t0 := t) (hx_ER_R f0 (hx_ERN f1 hE)) ht hW (hx_nv0 h8) hO (hx_SR_R f0 (κ := 46) (by omega) (by omega) s1) (fun i hi => by rw [hx_rd, if_neg (by omega), g1 i hi]; exact (Int32.sub_self _).symm) (by
      have := hx_dRN f1 hd
      refine ⟨by rw [hx_rd, if_neg (by omega)]; exact this.1, fun k hk => ?_⟩
      rw [hx_rd, if_neg (by omega), hx_rd, if_neg (by omega)]
      exact this.2 k hk)
    obtain ⟨μ3, e3, f3, r3⟩ := hx_ent (d + 6) (hx_rwRf f2 (by intro κ i x y; unfold hx_yN at y; omega) (hx_rwz μ1)) (by decide) (hx_tn (hx_is E 255 t M pw wk)).toInt64
    rw [hq_M_absent_9, hx_rP hE, if_neg (nI_nlt (by omega) (by omega)), e1, hx_bV, e2, hx_bI, hx_flag, hx_bI, e3, hx_bV, show k = hx_P E from hk]
    exact ⟨μ3, rfl, hx_tr (hx_tr (hx_tr (hx_qRY (hx_yNq f1)) (hx_yRq f0)) (hx_qRY (hx_yNq f2))) (hx_yRq f3), r3⟩
  | m + 1, k, μ, hk, hE, hs, hd => by
    have h8 := hE.1.1
    obtain ⟨μ1, e1, f1, s1, g1⟩ := hx_starts (d + 5) hs
    have S1 := hx_SRq (hx_qRY (hx_yNq f1)) hs
    have eA : hx_isA (hx_P E) t (nI k) = bt (t 16) k := by
      unfold hx_isA
      rw [hx_isPi (by omega) h8, Bool.true_and, nI_clamp (by omega)]
    have go : ∀ μ2, hx_fr hx_yN μ μ2 → ∃ μ', he_M_absent_9 (d + 7) (hx_bits (hx_aok E t M pw wk) (k + 1)) (nI (k + 1)) μ2 = some (some (vI (hx_bits (hx_aok E t M pw wk) (hx_P E))), μ') ∧ hx_fr hx_qY μ μ' ∧ hx_rwR μ' [(hx_tn (hx_is E 255 t M pw wk)).toInt64] := by
      intro μ2 f2
      obtain ⟨μ3, e3, f3, r3⟩ := hx_abR d ht hW hO m (k + 1) μ2 (by omega) (hx_ERN f2 hE) (hx_SRq (hx_qRY (hx_yNq f2)) hs) (hx_dRN f2 hd)
      exact ⟨μ3, e3, hx_tr (hx_qRY (hx_yNq f2)) f3, r3⟩
    rw [hx_bitsS] at go
    rw [hq_M_absent_9, hx_rP hE, if_pos (nI_lt (by omega) (by omega)), e1, hx_bV, hx_isAM _ (hx_ERN f1 hE) S1, hx_bI, hx_tn0, eA, nI_1, Int32.or_zero]
    by_cases c : bt (t 16) k = true
    · obtain ⟨μ2, e2, f2⟩ := hx_isSo d (t0 := t) (hx_ERN f1 hE) ht hW (a := hx_oth k) (hx_nv1 h8 (p := k) (by omega)) hO s1 (fun i hi => by rw [g1 i hi]; exact (Int32.sub_self _).symm) (hx_dRN f1 hd)
      have g := go μ2 (hx_tr f1 f2)
      rw [if_pos c, e2, hx_bI, hx_tn0]
      rw [show hx_aok E t M pw wk k = hx_is E (hx_oth k) t M pw wk by unfold hx_aok; rw [c, Bool.true_and]] at g
      by_cases z : hx_is E (hx_oth k) t M pw wk = true
      · rw [if_pos z] at g ⊢
        exact g
      · rw [if_neg z] at g ⊢
        exact g
    · have g := go μ1 f1
      rw [if_neg c]
      rw [Bool.not_eq_true] at c
      rw [show hx_aok E t M pw wk k = false by unfold hx_aok; rw [c, Bool.false_and], if_neg (by decide)] at g
      exact g
theorem hx_absent (d : Nat) {n : Nat} (hn : n ≤ 512) {E : hx_Env} {t : hx_St} {μ : hs_M} (h : hx_I n E t μ) : hx_A n μ (hc_H_absent (d + 8)) (hc_M_absent (d + 8)) := by
  have h8 := h.1.1.1
  obtain ⟨M, pw, wk, hO, hC, hR⟩ := hx_iDx h8 h.2.2.2.2.2.2.2.2.2.2
  obtain ⟨μ1, b, e1, f1, g1, g2⟩ := hx_gather (d + 4) h8 hO hC
  have q1 := hx_qCX (hx_xDuq f1)
  have E1 := hx_ECq q1 h.1
  have S1 := hx_SCq q1 (by omega) h.2.2.1.1
  obtain ⟨μ2, e2, f2, s2⟩ := hx_follow (d + 5) (j := 36) S1 (by omega)
  have f2' : hx_fr (hx_xS 36) μ1 μ2 := hx_mo (fun κ b i x => by unfold hx_xS; omega) f2
  have E2 := hx_ECS f2' E1
  have S2 := hx_SCS f2' S1
  have mid : ∃ μ4, (if hx_tn b = 0 then hs_bV (hc_Row_begin (d + 6) (0 : Int64) μ2) (fun μ3 => he_Trials_explainingAbsences_48 (d + 6) (hx_tn b) 0 0 μ3) else hs_bI (hc_Trials_comesAsDue (d + 6) 255 μ2) (fun r4 μ4 => if r4 = 0 then hs_bV (hc_Row_begin (d + 6) (0 : Int64) μ4) (fun μ5 => he_Trials_explainingAbsences_48 (d + 6) (hx_tn b) 0 0 μ5) else hs_bV (hc_Row_begin (d + 6) (1 : Int64) μ4) (fun μ6 => he_Trials_explainingAbsences_48 (d + 6) (hx_tn b) 0 0 μ6))) = he_Trials_explainingAbsences_48 (d + 6) (hx_tn b) 0 0 μ4 ∧ hx_fr hx_qX μ2 μ4 ∧ hx_rwC μ4 [(hx_tn (hx_is E 255 t M pw wk)).toInt64] ∧ (b = true → hx_due μ4 pw wk M) := by
    rw [hx_tn0]
    by_cases cb : b = true
    · obtain ⟨μ3, e3, f3⟩ := hx_comes (d + 1) E2 h.2.2.2.2.1 (by omega) 255 hO s2 (hx_dueS f2' (g1 cb))
      obtain ⟨μ4, e4, f4, r4⟩ := hx_begin (d + 4) μ3 (hx_tn (hx_is E 255 t M pw wk)).toInt64
      refine ⟨μ4, ?_, hx_tr (hx_xSX f3) (hx_xRq f4), r4, ?_⟩
      · rw [if_pos cb, e3, hx_bI, hx_tn0]
        cases z : hx_is E 255 t M pw wk
        · rw [z] at e4
          rw [if_neg (by decide), show (0 : Int64) = (hx_tn false).toInt64 from by decide, e4, hx_bV]
        · rw [z] at e4
          rw [if_pos rfl, show (1 : Int64) = (hx_tn true).toInt64 from by decide, e4, hx_bV]
      · intro z
        have := hx_dueS f3 (hx_dueS f2' (g1 z))
        unfold hx_due at *
        rw [f4.1 9 0 6 (by unfold hx_xR; omega)]
        refine ⟨this.1, fun w hw => ?_⟩
        rw [f4.1 39 0 w (by unfold hx_xR; omega)]
        exact this.2 w hw
    · rw [if_neg cb]
      have cb' := cb
      rw [Bool.not_eq_true] at cb'
      obtain ⟨i, j, hi, hj, e, ne⟩ := g2 cb'
      obtain ⟨μ4, e4, f4, r4⟩ := hx_begin (d + 4) μ2 (0 : Int64)
      refine ⟨μ4, ?_, hx_xRq f4, ?_, fun z => absurd z cb⟩
      · rw [e4, hx_bV]
      · rw [hx_conf h8 hO hi hj e ne]
        exact r4
  obtain ⟨μ4, e4, f4, r4, d4⟩ := mid
  have q4 := hx_tr (hx_tr q1 (hx_xSX f2')) f4
  obtain ⟨μ5, e5, f5⟩ := hx_abC (d + 1) h.2.2.2.2.1 (by omega) hO g2 (hx_P E) 0 μ4 (by omega) (hx_ECq q4 h.1) (hx_SCq q4 (by omega) h.2.2.1.1) d4
  have q5 := hx_tr q4 (hx_xSX f5)
  have hI := hx_I0 (hx_Ir h q5)
  obtain ⟨μ6, e6, f6, r6⟩ := hx_abR d h.2.2.2.2.1 (by omega) hO (hx_P E) 0 _ (by omega) hI.2.1 hI.2.2.2.1 (hx_dRX q5 hR)
  refine ⟨hx_bits (hx_aok E t M pw wk) (hx_P E), μ5, μ6, ?_, ?_, E, t, hx_Iq1 h q5 (hx_rwCf f5 (by intro κ i x y; unfold hx_xS at y; omega) r4) (hx_tr (hx_wr (hx_rf _ _) _ (by unfold hx_qY hx_qR; omega)) f6) r6⟩
  · rw [hq_H_absent, hq_Trials_explainingAbsences, e1, hx_bI, e2, hx_bV, e4]
    rw [show he_Trials_explainingAbsences_48 (d + 6) (hx_tn b) 0 0 μ4 = he_Trials_explainingAbsences_48 (d + 6) (hx_tn b) (hx_bits (hx_aok E t M pw wk) 0) (nI 0) μ4 from rfl, e5, hx_bI]
  · rw [hq_M_absent]
    exact e6
