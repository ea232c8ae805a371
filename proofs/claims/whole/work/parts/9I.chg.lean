/-! ===== E: changes, as a text tells them ===== -/
def hx_pms (c : Int32) : Bool := decide (c = 43) || decide (c = 45)
/-- how many, where it ends, whether no digit is missing -/
def hx_rch (T : Nat → Int32) : Nat → Nat → Nat × Nat × Bool
  | 0, k => (0, k, true)
  | f + 1, k => if hx_pms (T k) = true then (if hx_rg 48 57 (T (k + 1)) = true then ((hx_rch T f (k + 2)).1 + 1, (hx_rch T f (k + 2)).2) else (0, k + 1, false)) else (0, k, true)
theorem hx_rchS (T : Nat → Int32) (f k : Nat) : hx_rch T (f + 1) k = if hx_pms (T k) = true then (if hx_rg 48 57 (T (k + 1)) = true then ((hx_rch T f (k + 2)).1 + 1, (hx_rch T f (k + 2)).2) else (0, k + 1, false)) else (0, k, true) := rfl
def hx_cv (T : Nat → Int32) (k : Nat) : Int32 := if T k = 43 then hx_dg (T (k + 1)) else -hx_dg (T (k + 1))
theorem hx_pmlt {m : Nat} {T : Nat → Int32} (hk : hx_Tk m T) {k : Nat} (h : hx_pms (T k) = true) : k < m := by
  rcases Nat.lt_or_ge k m with z | z
  · exact z
  · rw [hk.2.2 k z] at h
    exact absurd h (by decide)
theorem hx_rcb {m : Nat} {T : Nat → Int32} (hk : hx_Tk m T) : ∀ (f k : Nat), k ≤ m → (hx_rch T f k).1 ≤ f ∧ k ≤ (hx_rch T f k).2.1 ∧ (hx_rch T f k).2.1 ≤ m
  | 0, k, h => ⟨Nat.le_refl 0, Nat.le_refl k, h⟩
  | f + 1, k, h => by
    rw [hx_rchS]
    by_cases c : hx_pms (T k) = true
    · rw [if_pos c]
      by_cases c2 : hx_rg 48 57 (T (k + 1)) = true
      · rw [if_pos c2]
        have c3 := hx_dlt' hk c2
        have := hx_rcb hk f (k + 2) (by omega)
        refine ⟨?_, ?_, this.2.2⟩
        · show (hx_rch T f (k + 2)).1 + 1 ≤ f + 1
          omega
        · show k ≤ (hx_rch T f (k + 2)).2.1
          omega
      · rw [if_neg c2]
        have := hx_pmlt hk c
        exact ⟨Nat.zero_le _, Nat.le_succ k, this⟩
    · rw [if_neg c]
      exact ⟨Nat.zero_le _, Nat.le_refl k, h⟩
/-- a change sign stands behind none but six changes -/
theorem hx_rce {T : Nat → Int32} : ∀ (f k : Nat), (hx_rch T f k).2.2 = true → hx_pms (T (hx_rch T f k).2.1) = true → (hx_rch T f k).1 = f
  | 0, k, _, _ => rfl
  | f + 1, k, h1, h2 => by
    rw [hx_rchS] at h1 h2 ⊢
    by_cases c : hx_pms (T k) = true
    · rw [if_pos c] at h1 h2 ⊢
      by_cases c2 : hx_rg 48 57 (T (k + 1)) = true
      · rw [if_pos c2] at h1 h2 ⊢
        show (hx_rch T f (k + 2)).1 + 1 = f + 1
        rw [hx_rce f (k + 2) h1 h2]
      · rw [if_neg c2] at h1
        exact absurd (show false = true from h1) (by decide)
    · rw [if_neg c] at h2
      exact absurd h2 c
theorem hx_isCh (d : Nat) (c : Int32) (μ : hs_M) : hc_Town_isChangeSign (d + 1) c μ = some (some (vI (hx_tn (hx_pms c))), μ) := by
  rw [hq_Town_isChangeSign, hq_Town_isChangeSign_12]
  unfold hx_pms
  by_cases c1 : c = 43
  · rw [if_pos c1, decide_eq_true c1, hx_rz1]
    rfl
  rw [if_neg c1, decide_eq_false c1]
  by_cases c2 : c = 45
  · rw [if_pos c2, decide_eq_true c2, hx_rz1]
    rfl
  · rw [if_neg c2, decide_eq_false c2, hx_rz0]
    rfl
def hx_xC (κ b i : Nat) : Prop := b = 0 ∧ ((κ = 8 ∧ (i = 6 ∨ i = 7)) ∨ κ = 20)
theorem hx_rcC (d : Nat) {m : Nat} {T : Nat → Int32} (hk : hx_Tk m T) : ∀ (f j k : Nat) (μ : hs_M), j + f = 6 → hx_TC μ m T → k ≤ m → μ.1 8 0 7 = nI k → μ.1 8 0 6 = nI j → ∃ μ', he_Town_readChanges_7 (d + 2) (nI j) μ = some (some (vI (hx_tn ((hx_rch T f k).2.2 && !hx_pms (T (hx_rch T f k).2.1)))), μ') ∧ hx_fr hx_xC μ μ' ∧ μ'.1 8 0 7 = nI (hx_rch T f k).2.1 ∧ μ'.1 8 0 6 = nI (j + (hx_rch T f k).1) ∧ (∀ i, i < j → μ'.1 20 0 i = μ.1 20 0 i) ∧ (∀ i, i < (hx_rch T f k).1 → μ'.1 20 0 (j + i) = hx_cv T (k + 2 * i))
  | 0, j, k, μ, hj, hT, hkm, h7, h6 => by
    have h80 := hk.1
    rw [hq_Town_readChanges_7, if_neg (show ¬ nI j < (6 : Int32) from nI_nlt (b := 6) (by omega) (by omega)), h7, hx_sAt (d + 1) hk hT (by omega), hx_bI, hx_isCh, hx_bI, hx_tn0]
    refine ⟨μ, ?_, hx_rf _ _, h7, h6, fun _ _ => rfl, fun i hi => absurd hi (Nat.not_lt_zero i)⟩
    show _ = some (some (vI (hx_tn (true && !hx_pms (T k)))), μ)
    by_cases c : hx_pms (T k) = true
    · rw [if_pos c, hx_rz0, c]
      rfl
    · rw [if_neg c, hx_rz1, Bool.eq_false_iff.mpr c]
      rfl
  | f + 1, j, k, μ, hj, hT, hkm, h7, h6 => by
    have h80 := hk.1
    rw [hq_Town_readChanges_7, if_pos (show nI j < (6 : Int32) from nI_lt (b := 6) (by omega) (by omega)), h7, hx_sAt (d + 1) hk hT (by omega), hx_bI, hx_isCh, hx_bI, hx_tn0, hx_rchS]
    by_cases c : hx_pms (T k) = true
    rotate_left
    · rw [if_neg c, if_neg c, hx_rz1]
      refine ⟨μ, ?_, hx_rf _ _, h7, h6, fun _ _ => rfl, fun i hi => absurd hi (Nat.not_lt_zero i)⟩
      show _ = some (some (vI (hx_tn (true && !hx_pms (T k)))), μ)
      rw [Bool.eq_false_iff.mpr c]
      rfl
    have hlt := hx_pmlt hk c
    rw [if_pos c, if_pos c, h7, nI_1, hx_dAt d hk hT (by omega), hx_bI]
    by_cases c2 : hx_rg 48 57 (T (k + 1)) = true
    rotate_left
    · rw [if_neg c2, show hx_dg (T (k + 1)) = -1 from if_neg c2, if_pos rfl, hx_rz0, h7, nI_1]
      refine ⟨hs_wI μ 8 0 7 (nI (k + 1)), rfl, hx_wr (hx_rf _ _) _ (by unfold hx_xC; omega), ?_, ?_, fun i hi => ?_, fun i hi => absurd hi (Nat.not_lt_zero i)⟩
      · rw [hx_rd, if_pos ⟨rfl, rfl, rfl⟩]
      · rw [hx_rd, if_neg (by omega), h6]
        rfl
      · rw [hx_rd, if_neg (by omega)]
    obtain ⟨q, hq, e1, e2⟩ := hx_dgd c2
    have hlt2 := hx_dlt' hk c2
    have go : ∀ v : Int32, v = hx_cv T k → ∃ μ', he_Town_readChanges_7 (d + 2) (nI (j + 1)) (hs_wI (hs_wI (hs_wI μ 20 0 j v) 8 0 6 (nI (j + 1))) 8 0 7 (nI (k + 2))) = some (some (vI (hx_tn (((hx_rch T f (k + 2)).1 + 1, (hx_rch T f (k + 2)).2).2.2 && !hx_pms (T ((hx_rch T f (k + 2)).1 + 1, (hx_rch T f (k + 2)).2).2.1)))), μ') ∧ hx_fr hx_xC μ μ' ∧ μ'.1 8 0 7 = nI ((hx_rch T f (k + 2)).1 + 1, (hx_rch T f (k + 2)).2).2.1 ∧ μ'.1 8 0 6 = nI (j + ((hx_rch T f (k + 2)).1 + 1, (hx_rch T f (k + 2)).2).1) ∧ (∀ i, i < j → μ'.1 20 0 i = μ.1 20 0 i) ∧ (∀ i, i < ((hx_rch T f (k + 2)).1 + 1, (hx_rch T f (k + 2)).2).1 → μ'.1 20 0 (j + i) = hx_cv T (k + 2 * i)) := fun v hv => by
      have f1 : hx_fr hx_xC μ (hs_wI (hs_wI (hs_wI μ 20 0 j v) 8 0 6 (nI (j + 1))) 8 0 7 (nI (k + 2))) := hx_wr (hx_wr (hx_wr (hx_rf _ _) _ (by unfold hx_xC; omega)) _ (by unfold hx_xC; omega)) _ (by unfold hx_xC; omega)
      obtain ⟨μ', a1, a2, a3, a4, a5, a6⟩ := hx_rcC d hk f (j + 1) (k + 2) _ (by omega) (hx_TCf f1 (fun i => by unfold hx_xC; omega) hT) (by omega) (by rw [hx_rd, if_pos ⟨rfl, rfl, rfl⟩]) (by rw [hx_rd, if_neg (by omega), hx_rd, if_pos ⟨rfl, rfl, rfl⟩])
      refine ⟨μ', a1, hx_tr f1 a2, a3, ?_, fun i hi => ?_, fun i hi => ?_⟩
      · rw [a4]
        exact congrArg nI (by show j + 1 + (hx_rch T f (k + 2)).1 = j + ((hx_rch T f (k + 2)).1 + 1); omega)
      · rw [a5 i (by omega), hx_rd, if_neg (by omega), hx_rd, if_neg (by omega), hx_rd, if_neg (by omega)]
      · have hi' : i < (hx_rch T f (k + 2)).1 + 1 := hi
        rcases i with _ | i
        · rw [Nat.add_zero, a5 j (by omega), hx_rd, if_neg (by omega), hx_rd, if_neg (by omega), hx_rd, if_pos ⟨rfl, rfl, rfl⟩, hv]
          rfl
        · have := a6 i (by omega)
          rw [show j + 1 + i = j + (i + 1) by omega, show k + 2 + 2 * i = k + 2 * (i + 1) by omega] at this
          exact this
    rw [if_pos c2, e2, if_neg (hx_nn1 (by omega)), h7, hx_sAt (d + 1) hk hT (by omega), hx_bI, if_pos (hx_in (by omega) (by omega)), nI_clamp (by omega), h6, nI_1, h7, show nI k + 2 = nI (k + 2) from nI_add k 2]
    by_cases c3 : T k = 43
    · rw [if_pos c3]
      exact go (nI q) (by unfold hx_cv; rw [if_pos c3, e2])
    · rw [if_neg c3, if_pos (hx_in (by omega) (by omega))]
      exact go (-nI q) (by unfold hx_cv; rw [if_neg c3, e2])
theorem hx_neg1 : ∀ q, q ≤ 9 → (-1 : Int32) * nI q = -nI q ∧ (1 : Int32) * nI q = nI q := by decide +kernel
def hx_yC (x κ b i : Nat) : Prop := b = 0 ∧ ((κ = 12 ∧ i = 14) ∨ (κ = 50 ∧ 6 * x ≤ i ∧ i < 6 * x + 6) ∨ (κ = 51 ∧ i = x))
theorem hx_a0pm (c : Int32) : (hx_a0 c < 0) ↔ ¬ hx_pms c = true := by
  unfold hx_a0 hx_pms
  by_cases c1 : (43 : Int32) = c
  · rw [if_pos c1, decide_eq_true c1.symm]
    exact ⟨fun z => absurd z (by decide), fun z => absurd rfl z⟩
  rw [if_neg c1, decide_eq_false (fun z => c1 z.symm)]
  by_cases c2 : (45 : Int32) = c
  · rw [if_pos c2, decide_eq_true c2.symm]
    exact ⟨fun z => absurd z (by decide), fun z => absurd rfl z⟩
  · rw [if_neg c2, decide_eq_false (fun z => c2 z.symm)]
    exact ⟨fun _ => by decide, fun _ => by decide⟩
theorem hx_rcR (d : Nat) {m : Nat} {T : Nat → Int32} (hk : hx_Tk m T) {x : Nat} (hx : x < 9) : ∀ (f j k : Nat) (μ : hs_M), j + f = 6 → hx_TR μ m T → k ≤ m → μ.1 12 0 14 = nI k → ∃ μ', he_M_readsHabit_2 (d + 3) (nI x) (nI j) μ = some (some (vI (hx_tn (hx_rch T f k).2.2)), μ') ∧ hx_fr (hx_yC x) μ μ' ∧ μ'.1 12 0 14 = nI (hx_rch T f k).2.1 ∧ ((hx_rch T f k).2.2 = true → μ'.1 51 0 x = nI (j + (hx_rch T f k).1)) ∧ (∀ i, i < j → μ'.1 50 0 (6 * x + i) = μ.1 50 0 (6 * x + i)) ∧ (∀ i, i < (hx_rch T f k).1 → μ'.1 50 0 (6 * x + (j + i)) = hx_cv T (k + 2 * i))
  | 0, j, k, μ, hj, hT, hkm, hp => by
    rw [hq_M_readsHabit_2, if_neg (show ¬ nI j < (6 : Int32) from nI_nlt (b := 6) (by omega) (by omega)), hq_M_readsHabit_86, if_pos (hx_in (by omega) (by omega)), nI_clamp (by omega), hx_rz1]
    refine ⟨hs_wI μ 51 0 x (nI j), rfl, hx_wr (hx_rf _ _) _ (by unfold hx_yC; omega), ?_, fun _ => ?_, fun i hi => ?_, fun i hi => absurd hi (Nat.not_lt_zero i)⟩
    · rw [hx_rd, if_neg (by omega), hp]
      rfl
    · rw [hx_rd, if_pos ⟨rfl, rfl, rfl⟩]
      rfl
    · rw [hx_rd, if_neg (by omega)]
  | f + 1, j, k, μ, hj, hT, hkm, hp => by
    have h80 := hk.1
    rw [hq_M_readsHabit_2, if_pos (show nI j < (6 : Int32) from nI_lt (b := 6) (by omega) (by omega)), hx_am0 (d + 2) hk hT hkm hp, hx_bI, hx_rchS]
    by_cases c : hx_pms (T k) = true
    rotate_left
    · rw [if_neg c, if_pos ((hx_a0pm _).mpr c), hq_M_readsHabit_86, if_pos (hx_in (by omega) (by omega)), nI_clamp (by omega), hx_rz1]
      refine ⟨hs_wI μ 51 0 x (nI j), rfl, hx_wr (hx_rf _ _) _ (by unfold hx_yC; omega), ?_, fun _ => ?_, fun i hi => ?_, fun i hi => absurd hi (Nat.not_lt_zero i)⟩
      · rw [hx_rd, if_neg (by omega), hp]
      · rw [hx_rd, if_pos ⟨rfl, rfl, rfl⟩]
        rfl
      · rw [hx_rd, if_neg (by omega)]
    have hlt := hx_pmlt hk c
    rw [if_pos c, if_neg (fun z => (hx_a0pm _).mp z c), hx_takes (d + 1) hk hT hkm hp (by decide), hx_bI, hx_tn0]
    -- behind the sign, whichever it was
    have wq : ∀ b : Nat, (hs_wI (hs_wI μ 12 0 14 (nI b)) 12 0 14 (nI (k + 1))).1 12 0 14 = nI (k + 1) := fun b => by rw [hx_rd, if_pos ⟨rfl, rfl, rfl⟩]
    have fq : ∀ b : Nat, hx_fr (fun κ b i => b = 0 ∧ κ = 12 ∧ i = 14) μ (hs_wI (hs_wI μ 12 0 14 (nI b)) 12 0 14 (nI (k + 1))) := fun b => hx_wr (hx_wr (hx_rf _ _) _ (by omega)) _ (by omega)
    have go : ∀ (ν : hs_M) (s : Int32), ν.1 12 0 14 = nI (k + 1) → hx_fr (fun κ b i => b = 0 ∧ κ = 12 ∧ i = 14) μ ν → (∀ q, q ≤ 9 → hx_dg (T (k + 1)) = nI q → s * nI q = hx_cv T k) → ∃ μ', hs_bI (hc_M_isDigit (d + 3) ν) (fun r4 μ4 => (if r4 = 0 then hs_rz 0 μ4 else hs_bI (hc_M_number (d + 3) 1 μ4) (fun r5 μ5 => (if hs_in ((6 * nI x) + nI j) 54 then he_M_readsHabit_2 (d + 3) (nI x) (nI j + 1) (hs_wI μ5 50 0 (((6 * nI x) + nI j).toNatClampNeg) (s * r5)) else none)))) = some (some (vI (hx_tn (if hx_rg 48 57 (T (k + 1)) = true then ((hx_rch T f (k + 2)).1 + 1, (hx_rch T f (k + 2)).2) else (0, k + 1, false)).2.2)), μ') ∧ hx_fr (hx_yC x) μ μ' ∧ μ'.1 12 0 14 = nI (if hx_rg 48 57 (T (k + 1)) = true then ((hx_rch T f (k + 2)).1 + 1, (hx_rch T f (k + 2)).2) else (0, k + 1, false)).2.1 ∧ ((if hx_rg 48 57 (T (k + 1)) = true then ((hx_rch T f (k + 2)).1 + 1, (hx_rch T f (k + 2)).2) else (0, k + 1, false)).2.2 = true → μ'.1 51 0 x = nI (j + (if hx_rg 48 57 (T (k + 1)) = true then ((hx_rch T f (k + 2)).1 + 1, (hx_rch T f (k + 2)).2) else (0, k + 1, false)).1)) ∧ (∀ i, i < j → μ'.1 50 0 (6 * x + i) = μ.1 50 0 (6 * x + i)) ∧ (∀ i, i < (if hx_rg 48 57 (T (k + 1)) = true then ((hx_rch T f (k + 2)).1 + 1, (hx_rch T f (k + 2)).2) else (0, k + 1, false)).1 → μ'.1 50 0 (6 * x + (j + i)) = hx_cv T (k + 2 * i)) := by
      intro ν s hν fν hs
      have hTν := hx_TRf fν (fun i => by omega) hT
      rw [hx_isD (d + 1) hk hTν (show k + 1 ≤ m by omega) hν, hx_bI, hx_tn0]
      by_cases c2 : hx_rg 48 57 (T (k + 1)) = true
      rotate_left
      · rw [if_neg c2, if_neg c2, hx_rz0]
        refine ⟨ν, rfl, hx_mo (fun κ b i z => by unfold hx_yC; omega) fν, hν, fun z => absurd (show false = true from z) (by decide), fun i hi => fν.1 50 0 _ (by omega), fun i hi => absurd hi (Nat.not_lt_zero i)⟩
      obtain ⟨q, hq, e1, e2⟩ := hx_dgd c2
      have hlt2 := hx_dlt' hk c2
      obtain ⟨ν1, n1, n2, n3⟩ := hx_numR d hk (n := 1) (by omega) hTν (show k + 1 ≤ m by omega) hν
      rw [hx_nm1 c2, e2, nI_clamp (by omega)] at n1
      rw [hx_nm1 c2] at n3
      rw [if_pos c2, if_pos c2, show hc_M_number (d + 3) 1 ν = hc_M_number (d + 3) (nI 1) ν from rfl, n1, hx_bI, hs q hq e2, show (6 : Int32) * nI x = nI (6 * x) from pk_mul 6 x, nI_add, if_pos (hx_in (by omega) (by omega)), nI_clamp (by omega), nI_1]
      have f1 : hx_fr (hx_yC x) μ (hs_wI ν1 50 0 (6 * x + j) (hx_cv T k)) := hx_wr (hx_tr (hx_mo (fun κ b i z => by unfold hx_yC; omega) fν) (hx_mo (fun κ b i z => by unfold hx_yC; omega) n2)) _ (by unfold hx_yC; omega)
      obtain ⟨μ', a1, a2, a3, a4, a5, a6⟩ := hx_rcR d hk hx f (j + 1) (k + 2) _ (by omega) (hx_TRf f1 (fun i => by unfold hx_yC; omega) hT) (by omega) (by rw [hx_rd, if_neg (by omega), n3])
      refine ⟨μ', a1, hx_tr f1 a2, a3, fun z => ?_, fun i hi => ?_, fun i hi => ?_⟩
      · rw [a4 z]
        exact congrArg nI (by show j + 1 + (hx_rch T f (k + 2)).1 = j + ((hx_rch T f (k + 2)).1 + 1); omega)
      · rw [a5 i (by omega), hx_rd, if_neg (by omega), n2.1 50 0 _ (by omega), fν.1 50 0 _ (by omega)]
      · have hi' : i < (hx_rch T f (k + 2)).1 + 1 := hi
        rcases i with _ | i
        · rw [Nat.add_zero, a5 j (by omega), hx_rd, if_pos ⟨rfl, rfl, rfl⟩]
          rfl
        · have := a6 i (by omega)
          rw [show j + 1 + i = j + (i + 1) by omega, show k + 2 + 2 * i = k + 2 * (i + 1) by omega] at this
          exact this
    by_cases c3 : T k = 43
    · rw [decide_eq_true c3, if_pos (show true = true from rfl), if_pos c3, hx_flag0, hx_bI, hx_rd, if_pos (show 12 = 12 ∧ 14 = 14 ∧ 0 = 0 from ⟨rfl, rfl, rfl⟩), Int32.add_zero]
      exact go _ 1 (wq _) (fq _) (fun q hq e => by unfold hx_cv; rw [if_pos c3, e, (hx_neg1 q hq).2])
    · rw [decide_eq_false c3, if_neg (show ¬ false = true by decide), if_neg c3, Nat.add_zero, hx_flag1, hx_bI, hx_rd, if_pos (show 12 = 12 ∧ 14 = 14 ∧ 0 = 0 from ⟨rfl, rfl, rfl⟩), nI_1]
      exact go _ (-1) (wq _) (fq _) (fun q hq e => by unfold hx_cv; rw [if_neg c3, e, (hx_neg1 q hq).1])
