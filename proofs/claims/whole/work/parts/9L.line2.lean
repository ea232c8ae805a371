/-! ===== E: a line, the reference ===== -/
def hx_yL (x κ b i : Nat) : Prop := b = 0 ∧ ((κ = 12 ∧ (i = 14 ∨ i = 21)) ∨ ((κ = 48 ∨ κ = 49 ∨ κ = 51) ∧ i = x) ∨ (κ = 50 ∧ 6 * x ≤ i ∧ i < 6 * x + 6))
theorem hx_a1lt (c : Int32) : (hx_a1 c < 0) ↔ ¬ hx_rg 48 51 c = true := by
  by_cases c2 : hx_rg 48 57 c = true
  · obtain ⟨q, hq, e1, _⟩ := hx_dgd c2
    rw [hx_rg3 hq e1, e1]
    exact (by decide +kernel : ∀ q, q ≤ 9 → ((hx_a1 (nI (48 + q)) < 0) ↔ ¬ decide (q < 4) = true)) q hq
  · have h0 : ∀ n, n < 4 → ¬ nI (48 + n) = c := fun n hn e => c2 (by rw [← e]; exact (by decide +kernel : ∀ n, n < 4 → hx_rg 48 57 (nI (48 + n)) = true) n hn)
    unfold hx_a1
    rw [if_neg (show ¬ (48 : Int32) = c from h0 0 (by omega)), if_neg (show ¬ (49 : Int32) = c from h0 1 (by omega)), if_neg (show ¬ (50 : Int32) = c from h0 2 (by omega)), if_neg (show ¬ (51 : Int32) = c from h0 3 (by omega))]
    exact ⟨fun _ z => c2 (hx_rg4 z), fun _ => by decide⟩
theorem hx_lEr {T : Nat → Int32} {k : Nat} (h : hx_lG T k = true) : hx_lE T k = (hx_lR T k).2.1 := by
  unfold hx_lG at h
  rw [Bool.and_eq_true] at h
  unfold hx_lE
  rw [if_pos h.1, if_pos h.2]
theorem hx_rp8 (d : Nat) {m : Nat} {T : Nat → Int32} (hk : hx_Tk m T) {μ : hs_M} (hT : hx_TR μ m T) {k : Nat} (hkm : k ≤ m) (hp : μ.1 12 0 14 = nI k) {P j : Nat} (hP : P + j = 8) (h3 : μ.1 12 0 3 = nI P) (h21 : μ.1 12 0 21 = nI j) : hc_M_readsPerson (d + 3) μ = some (some (vI 0), μ) := by
  rw [hq_M_readsPerson, hx_isD d hk hT hkm hp, hx_bI, hx_tn0, hq_M_readsPerson_23, hx_rz0, h3, h21, nI_add, if_pos (show nI (P + j) = (8 : Int32) by rw [hP]; rfl), ite_self]
theorem hx_rp95 (d : Nat) {m : Nat} {T : Nat → Int32} (hk : hx_Tk m T) {x j s : Nat} (hx : x < 8) (hj : j < 8) {ν : hs_M} (hT : hx_TR ν m T) (hs : s ≤ m) (hp : ν.1 12 0 14 = nI s) (h21 : ν.1 12 0 21 = nI j) : ∃ μ', he_M_readsPerson_95 (d + 4) (nI x) ν = some (some (vI (hx_tn (hx_rch T 6 s).2.2)), μ') ∧ hx_fr (fun κ b i => b = 0 ∧ ((κ = 12 ∧ (i = 14 ∨ i = 21)) ∨ (κ = 50 ∧ 6 * x ≤ i ∧ i < 6 * x + 6) ∨ (κ = 51 ∧ i = x))) ν μ' ∧ μ'.1 12 0 14 = nI (hx_rch T 6 s).2.1 ∧ μ'.1 12 0 21 = nI (j + 1) ∧ ((hx_rch T 6 s).2.2 = true → μ'.1 51 0 x = nI (hx_rch T 6 s).1) ∧ ∀ i, i < (hx_rch T 6 s).1 → μ'.1 50 0 (6 * x + i) = hx_cv T (s + 2 * i) := by
  have f0 : hx_fr (fun κ b i => b = 0 ∧ ((κ = 12 ∧ (i = 14 ∨ i = 21)) ∨ (κ = 50 ∧ 6 * x ≤ i ∧ i < 6 * x + 6) ∨ (κ = 51 ∧ i = x))) ν (hs_wI ν 12 0 21 (nI (j + 1))) := hx_wr (hx_rf _ _) _ (by omega)
  obtain ⟨μ', a1, a2, a3, a4, a5, a6⟩ := hx_rcR d hk (x := x) (by omega) 6 0 s (hs_wI ν 12 0 21 (nI (j + 1))) (by omega) (hx_TRf f0 (fun i => by omega) hT) hs (by rw [hx_rd, if_neg (by omega), hp])
  refine ⟨μ', ?_, hx_tr f0 (hx_mo (fun κ b i z => by unfold hx_yC at z; omega) a2), a3, ?_, fun z => ?_, fun i hi => ?_⟩
  · rw [hq_M_readsPerson_95, h21, nI_1, hq_M_readsHabit, show he_M_readsHabit_2 (d + 3) (nI x) 0 (hs_wI ν 12 0 21 (nI (j + 1))) = _ from a1, hx_bI, hx_tnz]
  · rw [a2.1 12 0 21 (by unfold hx_yC; omega), hx_rd, if_pos ⟨rfl, rfl, rfl⟩]
  · rw [a4 z, Nat.zero_add]
  · have := a6 i hi
    rw [Nat.zero_add] at this
    exact this
theorem hx_lnR (d : Nat) {m : Nat} {T : Nat → Int32} (hk : hx_Tk m T) {P j x : Nat} (hP : P + j = x) (hx : x < 8) {μ : hs_M} (hT : hx_TR μ m T) {k : Nat} (hkm : k ≤ m) (hp : μ.1 12 0 14 = nI k) (h3 : μ.1 12 0 3 = nI P) (h21 : μ.1 12 0 21 = nI j) : ∃ μ', hc_M_readsPerson (d + 5) μ = some (some (vI (hx_tn (hx_lG T k && (hx_lR T k).2.2))), μ') ∧ hx_fr (hx_yL x) μ μ' ∧ μ'.1 12 0 14 = nI (hx_lE T k) ∧ ((hx_lG T k && (hx_lR T k).2.2) = true → μ'.1 12 0 21 = nI (j + 1) ∧ μ'.1 48 0 x = nI (hx_lW T k) ∧ μ'.1 49 0 x = hx_lP T (hx_lK T k) ∧ μ'.1 51 0 x = nI (hx_lR T k).1 ∧ ∀ i, i < (hx_lR T k).1 → μ'.1 50 0 (6 * x + i) = hx_cv T (hx_lS T (hx_lK T k) + 2 * i)) := by
  have h80 := hk.1
  rw [hq_M_readsPerson, hx_isD (d + 2) hk hT hkm hp, hx_bI, hx_tn0, h3, h21, nI_add, hP]
  by_cases c : hx_rg 48 57 (T k) = true
  rotate_left
  · have e5 : hx_lA T k = false := by
      unfold hx_lA
      rw [Bool.eq_false_iff.mpr c]
      rfl
    have e6 : hx_lE T k = k := by
      unfold hx_lE
      rw [e5, if_neg (by decide), if_neg c]
    rw [if_neg c, hq_M_readsPerson_23, hx_rz0, e6]
    unfold hx_lG
    rw [e5]
    exact ⟨μ, rfl, hx_rf _ _, hp, fun z => absurd (show false = true from z) (by decide)⟩
  have bv := hx_nmb (T := T) 3 k 0 1 (by omega)
  have bp := hx_nmp hk 3 k 0 hkm
  have hlt : k < hx_lK T k := hx_nmd hk c
  obtain ⟨μ2, n1, n2, n3⟩ := hx_numR (d + 1) hk (n := 3) (by omega) hT hkm hp
  have eK : hx_lK T k = (hx_nm T 3 k 0).2 := rfl
  have eW : hx_lW T k = (hx_nm T 3 k 0).1 := rfl
  rw [← eK] at n3 bp
  rw [← eW] at n1 bv
  have f2 : hx_fr (hx_yL x) μ (hs_wI μ2 48 0 x (nI (hx_lW T k))) := hx_wr (hx_mo (fun κ b i z => by unfold hx_yL; omega) n2) _ (by unfold hx_yL; omega)
  have p2 : (hs_wI μ2 48 0 x (nI (hx_lW T k))).1 12 0 14 = nI (hx_lK T k) := by rw [hx_rd, if_neg (by omega), n3]
  rw [if_pos c, if_neg (show ¬ nI x = (8 : Int32) from fun y => absurd ((nI_eq (b := 8) (by omega) (by omega)).mp y) (by omega)), show hc_M_number (d + 4) 3 μ = _ from n1, hx_bI, if_pos (hx_in (by omega) (by omega)), if_pos (hx_in (by omega) (by omega)), nI_clamp (by omega), hx_rd, if_pos (show 48 = 48 ∧ x = x ∧ 0 = 0 from ⟨rfl, rfl, rfl⟩)]
  by_cases z : 0 < hx_lW T k
  rotate_left
  · have e5 : hx_lA T k = false := by
      unfold hx_lA
      rw [decide_eq_false z, Bool.and_false]
    have e6 : hx_lE T k = hx_lK T k - 1 := by
      unfold hx_lE
      rw [e5, if_neg (by decide), if_pos c]
    have e7 : nI (hx_lK T k) - 1 = nI (hx_lK T k - 1) := by
      rw [show hx_lK T k = (hx_lK T k - 1) + 1 by omega, nI_pred, Nat.add_sub_cancel]
    rw [if_pos (show nI (hx_lW T k) = 0 by rw [show hx_lW T k = 0 by omega]; rfl), n3, e7, hx_rz0, e6]
    unfold hx_lG
    rw [e5]
    exact ⟨_, rfl, hx_wr f2 _ (by unfold hx_yL; omega), by rw [hx_rd, if_pos ⟨rfl, rfl, rfl⟩], fun z => absurd (show false = true from z) (by decide)⟩
  have e5 : hx_lA T k = true := by
    unfold hx_lA
    rw [c, decide_eq_true z]
    rfl
  have f3 : hx_fr (hx_yL x) μ (hs_wI (hs_wI μ2 48 0 x (nI (hx_lW T k))) 49 0 x 0) := hx_wr f2 _ (by unfold hx_yL; omega)
  have p3 : (hs_wI (hs_wI μ2 48 0 x (nI (hx_lW T k))) 49 0 x 0).1 12 0 14 = nI (hx_lK T k) := by rw [hx_rd, if_neg (by omega), p2]
  have hT3 := hx_TRf f3 (fun i => by unfold hx_yL; omega) hT
  rw [if_neg (nI_ne0 z (by omega)), if_pos (hx_in (by omega) (by omega)), hx_takes (d + 2) hk hT3 bp.2 p3 (by decide), hx_bI, hx_tn0]
  have q48 : ∀ κ i v, κ ≠ 48 → (hs_wI (hs_wI (hs_wI μ2 48 0 x (nI (hx_lW T k))) 49 0 x 0) κ 0 i v).1 48 0 x = nI (hx_lW T k) := fun κ i v a => by
    rw [hx_rd, if_neg (by omega), hx_rd, if_neg (by omega), hx_rd, if_pos ⟨rfl, rfl, rfl⟩]
  have q21 : μ2.1 12 0 21 = nI j := by rw [n2.1 12 0 21 (by omega), h21]
  have fin : ∀ ν : hs_M, hx_fr (hx_yL x) μ ν → ν.1 12 0 14 = nI (hx_lS T (hx_lK T k)) → ν.1 12 0 21 = nI j → ν.1 48 0 x = nI (hx_lW T k) → ν.1 49 0 x = hx_lP T (hx_lK T k) → hx_lB T (hx_lK T k) = true → ∃ μ', he_M_readsPerson_95 (d + 4) (nI x) ν = some (some (vI (hx_tn (hx_lG T k && (hx_lR T k).2.2))), μ') ∧ hx_fr (hx_yL x) μ μ' ∧ μ'.1 12 0 14 = nI (hx_lE T k) ∧ ((hx_lG T k && (hx_lR T k).2.2) = true → μ'.1 12 0 21 = nI (j + 1) ∧ μ'.1 48 0 x = nI (hx_lW T k) ∧ μ'.1 49 0 x = hx_lP T (hx_lK T k) ∧ μ'.1 51 0 x = nI (hx_lR T k).1 ∧ ∀ i, i < (hx_lR T k).1 → μ'.1 50 0 (6 * x + i) = hx_cv T (hx_lS T (hx_lK T k) + 2 * i)) := by
    intro ν fν hν h21' h48 h49 cB
    obtain ⟨μ', a1, a2, a3, a4, a5, a6⟩ := hx_rp95 d hk hx (show j < 8 by omega) (hx_TRf fν (fun i => by unfold hx_yL; omega) hT) (hx_lSb hk bp.2).2 hν h21'
    have eG : hx_lG T k = true := by
      unfold hx_lG
      rw [e5, cB]
      rfl
    rw [hx_lEr eG, eG, Bool.true_and]
    refine ⟨μ', a1, hx_tr fν (hx_mo (fun κ b i z => by unfold hx_yL; omega) a2), a3, fun z => ⟨a4, ?_, ?_, a5 z, a6⟩⟩
    · rw [a2.1 48 0 x (by omega), h48]
    · rw [a2.1 49 0 x (by omega), h49]
  by_cases cS : T (hx_lK T k) = 42
  rotate_left
  · rw [decide_eq_false cS, if_neg (show ¬ false = true by decide), if_neg cS, Nat.add_zero]
    refine fin _ (hx_wr f3 _ (by unfold hx_yL; omega)) ?_ ?_ (q48 _ _ _ (by omega)) ?_ ?_
    · unfold hx_lS
      rw [if_neg cS, hx_rd, if_pos ⟨rfl, rfl, rfl⟩]
      rfl
    · rw [hx_rd, if_neg (by omega), hx_rd, if_neg (by omega), hx_rd, if_neg (by omega), q21]
    · unfold hx_lP
      rw [if_neg cS, hx_rd, if_neg (by omega), hx_rd, if_pos ⟨rfl, rfl, rfl⟩]
    · unfold hx_lB
      rw [decide_eq_false cS]
      rfl
  have hlt2 := hx_dlt hk (by decide) cS
  rw [decide_eq_true cS, if_pos (show true = true from rfl), if_pos cS]
  have f4 : hx_fr (hx_yL x) μ (hs_wI (hs_wI (hs_wI μ2 48 0 x (nI (hx_lW T k))) 49 0 x 0) 12 0 14 (nI (hx_lK T k + 1))) := hx_wr f3 _ (by unfold hx_yL; omega)
  have p4 : (hs_wI (hs_wI (hs_wI μ2 48 0 x (nI (hx_lW T k))) 49 0 x 0) 12 0 14 (nI (hx_lK T k + 1))).1 12 0 14 = nI (hx_lK T k + 1) := by rw [hx_rd, if_pos ⟨rfl, rfl, rfl⟩]
  have hT4 := hx_TRf f4 (fun i => by unfold hx_yL; omega) hT
  rw [hx_am1 (d + 3) hk hT4 (by omega) p4, hx_bI]
  by_cases c3 : hx_rg 48 51 (T (hx_lK T k + 1)) = true
  rotate_left
  · have eB : hx_lB T (hx_lK T k) = false := by
      unfold hx_lB
      rw [decide_eq_true cS, Bool.eq_false_iff.mpr c3]
      rfl
    have e6 : hx_lE T k = hx_lK T k + 1 := by
      unfold hx_lE hx_lS
      rw [if_pos e5, eB, if_neg (by decide), if_pos cS, if_neg c3]
    rw [if_pos ((hx_a1lt _).mpr c3), hx_rz0, e6]
    unfold hx_lG
    rw [eB, Bool.and_false]
    exact ⟨_, rfl, f4, p4, fun z => absurd (show false = true from z) (by decide)⟩
  obtain ⟨q, hq, e1, e2⟩ := hx_dgd (hx_rg4 c3)
  obtain ⟨μ5, n5, n6, n7⟩ := hx_numR (d + 1) hk (n := 1) (by omega) hT4 (show hx_lK T k + 1 ≤ m by omega) p4
  rw [hx_nm1 (hx_rg4 c3)] at n5 n7
  rw [if_neg (fun y => (hx_a1lt _).mp y c3), show hc_M_number (d + 4) 1 (hs_wI (hs_wI (hs_wI μ2 48 0 x (nI (hx_lW T k))) 49 0 x 0) 12 0 14 (nI (hx_lK T k + 1))) = _ from n5, hx_bI, if_pos (hx_in (by omega) (by omega))]
  refine fin _ (hx_wr (hx_tr f4 (hx_mo (fun κ b i z => by unfold hx_yL; omega) n6)) _ (by unfold hx_yL; omega)) ?_ ?_ ?_ ?_ ?_
  · unfold hx_lS
    rw [if_pos cS, if_pos c3, hx_rd, if_neg (by omega), n7]
  · rw [hx_rd, if_neg (by omega), n6.1 12 0 21 (by omega), hx_rd, if_neg (by omega), hx_rd, if_neg (by omega), hx_rd, if_neg (by omega), q21]
  · rw [hx_rd, if_neg (by omega), n6.1 48 0 x (by omega), q48 _ _ _ (by omega)]
  · unfold hx_lP
    rw [if_pos cS, hx_rd, if_pos ⟨rfl, rfl, rfl⟩, e2, nI_clamp (by omega)]
  · unfold hx_lB
    rw [c3, Bool.or_true]
