/-! ===== E: a line of a town ===== -/
def hx_lW (T : Nat → Int32) (k : Nat) : Nat := (hx_nm T 3 k 0).1
def hx_lK (T : Nat → Int32) (k : Nat) : Nat := (hx_nm T 3 k 0).2
def hx_lA (T : Nat → Int32) (k : Nat) : Bool := hx_rg 48 57 (T k) && decide (0 < hx_lW T k)
/-- party: good, where it ends, which -/
def hx_lB (T : Nat → Int32) (k : Nat) : Bool := !decide (T k = 42) || hx_rg 48 51 (T (k + 1))
def hx_lS (T : Nat → Int32) (k : Nat) : Nat := if T k = 42 then (if hx_rg 48 51 (T (k + 1)) = true then k + 2 else k + 1) else k
def hx_lP (T : Nat → Int32) (k : Nat) : Int32 := if T k = 42 then hx_dg (T (k + 1)) else 0
def hx_lR (T : Nat → Int32) (k : Nat) : Nat × Nat × Bool := hx_rch T 6 (hx_lS T (hx_lK T k))
/-- all before the changes is good -/
def hx_lG (T : Nat → Int32) (k : Nat) : Bool := hx_lA T k && hx_lB T (hx_lK T k)
def hx_lE (T : Nat → Int32) (k : Nat) : Nat := if hx_lA T k = true then (if hx_lB T (hx_lK T k) = true then (hx_lR T k).2.1 else hx_lS T (hx_lK T k)) else (if hx_rg 48 57 (T k) = true then hx_lK T k - 1 else k)
theorem hx_nmd {m : Nat} {T : Nat → Int32} (hk : hx_Tk m T) {n k v : Nat} (h : hx_rg 48 57 (T k) = true) : k < (hx_nm T (n + 1) k v).2 := by
  rw [hx_nmS, if_pos h]
  have := hx_nmp hk n (k + 1) (v * 10 + (hx_dg (T k)).toNatClampNeg) (hx_dlt' hk h)
  omega
theorem hx_rg4 {c : Int32} (h : hx_rg 48 51 c = true) : hx_rg 48 57 c = true := by
  have h' := of_decide_eq_true h
  exact decide_eq_true (by omega)
theorem hx_lSb {m : Nat} {T : Nat → Int32} (hk : hx_Tk m T) {k : Nat} (h : k ≤ m) : k ≤ hx_lS T k ∧ hx_lS T k ≤ m := by
  unfold hx_lS
  by_cases c : T k = 42
  · have := hx_dlt hk (by decide) c
    rw [if_pos c]
    by_cases c2 : hx_rg 48 51 (T (k + 1)) = true
    · have := hx_dlt' hk (hx_rg4 c2)
      rw [if_pos c2]
      omega
    · rw [if_neg c2]
      omega
  · rw [if_neg c]
    omega
theorem hx_lEb {m : Nat} {T : Nat → Int32} (hk : hx_Tk m T) {k : Nat} (h : k ≤ m) : hx_lE T k ≤ m := by
  have a := hx_nmp hk 3 k 0 h
  have b := hx_lSb hk (k := hx_lK T k) a.2
  have c := hx_rcb hk 6 (hx_lS T (hx_lK T k)) b.2
  have a' : hx_lK T k ≤ m := a.2
  have c' : (hx_lR T k).2.1 ≤ m := c.2.2
  unfold hx_lE
  split
  · split <;> omega
  · split <;> omega
theorem hx_wtL (d : Nat) {m : Nat} {T : Nat → Int32} (hk : hx_Tk m T) {x : Int32} : ∀ (f j k v : Nat) (μ : hs_M), j + f = 3 → hx_TC μ m T → k ≤ m → μ.1 8 0 7 = nI k → ∃ μ', he_Town_readWeight_5 (d + 2) x (nI v) (nI j) μ = he_Town_readWeight_53 (d + 2) x (nI (hx_nm T f k v).1) (nI (j + ((hx_nm T f k v).2 - k))) μ' ∧ hx_fr (fun κ b i => b = 0 ∧ κ = 8 ∧ i = 7) μ μ' ∧ μ'.1 8 0 7 = nI (hx_nm T f k v).2
  | 0, j, k, v, μ, hj, hT, hkm, h7 => by
    rw [hq_Town_readWeight_5, if_neg (show ¬ nI j < (3 : Int32) from nI_nlt (b := 3) (by omega) (by omega))]
    refine ⟨μ, ?_, hx_rf _ _, h7⟩
    show _ = he_Town_readWeight_53 (d + 2) x (nI v) (nI (j + (k - k))) μ
    rw [show j + (k - k) = j by omega]
  | f + 1, j, k, v, μ, hj, hT, hkm, h7 => by
    have h80 := hk.1
    rw [hq_Town_readWeight_5, if_pos (show nI j < (3 : Int32) from nI_lt (b := 3) (by omega) (by omega)), h7, hx_dAt d hk hT (by omega), hx_bI, hx_nmS]
    by_cases c : hx_rg 48 57 (T k) = true
    · obtain ⟨q, hq, e1, e2⟩ := hx_dgd c
      have c' := hx_dlt' hk c
      have f1 : hx_fr (fun κ b i => b = 0 ∧ κ = 8 ∧ i = 7) μ (hs_wI μ 8 0 7 (nI (k + 1))) := hx_wr (hx_rf _ _) _ ⟨rfl, rfl, rfl⟩
      obtain ⟨μ', a1, a2, a3⟩ := hx_wtL d hk (x := x) f (j + 1) (k + 1) (v * 10 + q) (hs_wI μ 8 0 7 (nI (k + 1))) (by omega) (hx_TCf f1 (fun i => by omega) hT) (by omega) (by rw [hx_rd, if_pos ⟨rfl, rfl, rfl⟩])
      have b := hx_nmp hk f (k + 1) (v * 10 + q) c'
      rw [if_pos c, e2, nI_clamp (by omega), if_neg (hx_nn1 (by omega)), h7, hx_dAt d hk hT (by omega), hx_bI, e2, h7, nI_1, nI_1, show nI v * 10 = nI (v * 10) from pk_mul v 10, nI_add]
      refine ⟨μ', ?_, hx_tr f1 a2, a3⟩
      rw [a1, show j + 1 + ((hx_nm T f (k + 1) (v * 10 + q)).2 - (k + 1)) = j + ((hx_nm T f (k + 1) (v * 10 + q)).2 - k) by omega]
    · rw [if_neg c, show hx_dg (T k) = -1 from if_neg c, if_pos rfl]
      refine ⟨μ, ?_, hx_rf _ _, h7⟩
      show _ = he_Town_readWeight_53 (d + 2) x (nI v) (nI (j + (k - k))) μ
      rw [show j + (k - k) = j by omega]
theorem hx_wtC (d : Nat) {m : Nat} {T : Nat → Int32} (hk : hx_Tk m T) {x : Nat} (hx : x < 8) {μ : hs_M} (hT : hx_TC μ m T) {k : Nat} (hkm : k ≤ m) (h7 : μ.1 8 0 7 = nI k) : ∃ μ', hc_Town_readWeight (d + 3) (nI x) μ = some (some (vI (hx_tn (hx_lA T k))), μ') ∧ hx_fr (fun κ b i => b = 0 ∧ ((κ = 8 ∧ i = 7) ∨ (κ = 19 ∧ i = x))) μ μ' ∧ μ'.1 8 0 7 = nI (if hx_lA T k = true then hx_lK T k else (if hx_rg 48 57 (T k) = true then hx_lK T k - 1 else k)) ∧ μ'.1 19 0 x = nI (hx_lW T k) := by
  have h80 := hk.1
  obtain ⟨μ1, e1, f1, p1⟩ := hx_wtL d hk (x := nI x) 3 0 k 0 μ (by omega) hT hkm h7
  have bp := hx_nmp hk 3 k 0 hkm
  have bv := hx_nmb (T := T) 3 k 0 1 (by omega)
  rw [hq_Town_readWeight, show he_Town_readWeight_5 (d + 2) (nI x) 0 0 μ = he_Town_readWeight_5 (d + 2) (nI x) (nI 0) (nI 0) μ from rfl, e1, Nat.zero_add, hq_Town_readWeight_53]
  have eK : hx_lK T k = (hx_nm T 3 k 0).2 := rfl
  have eW : hx_lW T k = (hx_nm T 3 k 0).1 := rfl
  rw [← eK] at p1 bp
  rw [← eW] at bv
  rw [← eW, ← eK]
  have fin : ∀ (ν : hs_M) (b : Bool) (q : Nat), hx_fr (fun κ b i => b = 0 ∧ κ = 8 ∧ i = 7) μ ν → ν.1 8 0 7 = nI q → b = decide (0 < hx_lW T k) → ∃ μ', he_Town_readWeight_72 (d + 2) (nI x) (nI (hx_lW T k)) ν = some (some (vI (hx_tn b)), μ') ∧ hx_fr (fun κ b i => b = 0 ∧ ((κ = 8 ∧ i = 7) ∨ (κ = 19 ∧ i = x))) μ μ' ∧ μ'.1 8 0 7 = nI q ∧ μ'.1 19 0 x = nI (hx_lW T k) := by
    intro ν b q fν hν hb
    refine ⟨hs_wI ν 19 0 x (nI (hx_lW T k)), ?_, hx_wr (hx_mo (fun κ b i z => by omega) fν) _ (by omega), ?_, ?_⟩
    · rw [hq_Town_readWeight_72, if_pos (hx_in (by omega) (by omega)), nI_clamp (by omega), hb]
      by_cases z : 0 < hx_lW T k
      · rw [if_pos (show (0 : Int32) < nI (hx_lW T k) from nI_lt (a := 0) z (by omega)), decide_eq_true z, hx_rz1]
        rfl
      · rw [if_neg (show ¬ (0 : Int32) < nI (hx_lW T k) from nI_nlt (a := 0) (by omega) (by omega)), decide_eq_false z, hx_rz0]
        rfl
    · rw [hx_rd, if_neg (by omega), hν]
    · rw [hx_rd, if_pos ⟨rfl, rfl, rfl⟩]
  by_cases c : hx_rg 48 57 (T k) = true
  rotate_left
  · have e0 : hx_nm T 3 k 0 = (0, k) := by rw [hx_nmS, if_neg c]
    have e3 : hx_lK T k = k := by rw [eK, e0]
    have e4 : hx_lW T k = 0 := by rw [eW, e0]
    have e5 : hx_lA T k = false := by
      unfold hx_lA
      rw [Bool.eq_false_iff.mpr c]
      rfl
    rw [e3, Nat.sub_self, if_neg (show ¬ (0 : Int32) < nI 0 by decide), e5, if_neg (by decide), if_neg c]
    rw [e3] at p1
    exact fin μ1 false k f1 p1 (by rw [e4]; rfl)
  have hlt : k < hx_lK T k := hx_nmd hk c
  rw [if_pos (show (0 : Int32) < nI (hx_lK T k - k) from nI_lt (a := 0) (by omega) (by omega)), if_pos c]
  by_cases z : 0 < hx_lW T k
  · have e5 : hx_lA T k = true := by
      unfold hx_lA
      rw [c, decide_eq_true z]
      rfl
    rw [if_neg (nI_ne0 z (by omega)), e5, if_pos rfl]
    exact fin μ1 true _ f1 p1 (decide_eq_true z).symm
  · have e5 : hx_lA T k = false := by
      unfold hx_lA
      rw [decide_eq_false z, Bool.and_false]
    have z0 : hx_lW T k = 0 := by omega
    rw [if_pos (show nI (hx_lW T k) = 0 by rw [z0]; rfl), e5, if_neg (by decide), p1]
    have e6 : nI (hx_lK T k) - 1 = nI (hx_lK T k - 1) := by
      rw [show hx_lK T k = (hx_lK T k - 1) + 1 by omega, nI_pred, Nat.add_sub_cancel]
    rw [e6]
    exact fin _ false _ (hx_wr f1 _ ⟨rfl, rfl, rfl⟩) (by rw [hx_rd, if_pos ⟨rfl, rfl, rfl⟩]) (decide_eq_false z).symm
theorem hx_rg3 {c : Int32} {q : Nat} (hq : q ≤ 9) (h : c = nI (48 + q)) : hx_rg 48 51 c = decide (q < 4) := by
  unfold hx_rg
  rw [h, nI_toInt (by omega)]
  by_cases z : q < 4
  · rw [decide_eq_true z, decide_eq_true (by omega)]
  · rw [decide_eq_false z, decide_eq_false (by omega)]
theorem hx_ptC (d : Nat) {m : Nat} {T : Nat → Int32} (hk : hx_Tk m T) {x : Nat} (hx : x < 8) {μ : hs_M} (hT : hx_TC μ m T) {k : Nat} (hkm : k ≤ m) (h7 : μ.1 8 0 7 = nI k) : ∃ μ', hc_Town_readParty (d + 3) (nI x) μ = some (some (vI (hx_tn (hx_lB T k))), μ') ∧ hx_fr (fun κ b i => b = 0 ∧ ((κ = 8 ∧ i = 7) ∨ (κ = 15 ∧ i = x))) μ μ' ∧ μ'.1 8 0 7 = nI (hx_lS T k) ∧ (hx_lB T k = true → μ'.1 15 0 x = hx_lP T k) := by
  have h80 := hk.1
  have f0 : hx_fr (fun κ b i => b = 0 ∧ ((κ = 8 ∧ i = 7) ∨ (κ = 15 ∧ i = x))) μ (hs_wI μ 15 0 x 0) := hx_wr (hx_rf _ _) _ (by omega)
  have hT0 := hx_TCf f0 (fun i => by omega) hT
  have h70 : (hs_wI μ 15 0 x 0).1 8 0 7 = nI k := by rw [hx_rd, if_neg (by omega), h7]
  rw [hq_Town_readParty, if_pos (hx_in (by omega) (by omega)), nI_clamp (by omega), h7, hx_sAt (d + 1) hk hT0 (by omega), hx_bI]
  unfold hx_lB hx_lS hx_lP
  by_cases c : T k = 42
  rotate_left
  · rw [if_neg c, if_neg c, if_neg c, decide_eq_false c, hx_rz1]
    exact ⟨_, rfl, f0, h70, fun _ => by rw [hx_rd, if_pos ⟨rfl, rfl, rfl⟩]⟩
  have hlt := hx_dlt hk (by decide) c
  have f1 : hx_fr (fun κ b i => b = 0 ∧ ((κ = 8 ∧ i = 7) ∨ (κ = 15 ∧ i = x))) μ (hs_wI (hs_wI μ 15 0 x 0) 8 0 7 (nI (k + 1))) := hx_wr f0 _ (by omega)
  have h71 : (hs_wI (hs_wI μ 15 0 x 0) 8 0 7 (nI (k + 1))).1 8 0 7 = nI (k + 1) := by rw [hx_rd, if_pos ⟨rfl, rfl, rfl⟩]
  rw [if_pos c, if_pos c, if_pos c, decide_eq_true c, h70, nI_1, hx_dAt d hk (hx_TCf f1 (fun i => by omega) hT) (by omega), hx_bI, hq_Town_readParty_51, hx_rz0]
  by_cases c2 : hx_rg 48 57 (T (k + 1)) = true
  rotate_left
  · have c3 : hx_rg 48 51 (T (k + 1)) = false := Bool.eq_false_iff.mpr (fun z => c2 (hx_rg4 z))
    rw [show hx_dg (T (k + 1)) = -1 from if_neg c2, if_pos rfl, c3, if_neg (by decide)]
    exact ⟨_, rfl, f1, h71, fun z => absurd (show false = true from z) (by decide)⟩
  obtain ⟨q, hq, e1, e2⟩ := hx_dgd c2
  rw [hx_rg3 hq e1, e2, if_neg (hx_nn1 (by omega))]
  by_cases z : q < 4
  · rw [if_pos (show nI q < (4 : Int32) from nI_lt (b := 4) z (by omega)), decide_eq_true z, if_pos (hx_in (by omega) (by omega)), hx_rz1, if_pos rfl, h71, nI_1]
    refine ⟨_, rfl, hx_wr (hx_wr f1 _ (by omega)) _ (by omega), ?_, fun _ => ?_⟩
    · rw [hx_rd, if_pos ⟨rfl, rfl, rfl⟩]
    · rw [hx_rd, if_neg (by omega), hx_rd, if_pos ⟨rfl, rfl, rfl⟩]
  · rw [if_neg (show ¬ nI q < (4 : Int32) from nI_nlt (b := 4) (by omega) (by omega)), decide_eq_false z, if_neg (by decide)]
    exact ⟨_, rfl, f1, h71, fun z => absurd (show false = true from z) (by decide)⟩
def hx_xL (x κ b i : Nat) : Prop := b = 0 ∧ ((κ = 8 ∧ (i = 6 ∨ i = 7)) ∨ κ = 20 ∨ ((κ = 15 ∨ κ = 16 ∨ κ = 17 ∨ κ = 19) ∧ i = x) ∨ (κ = 18 ∧ 6 * x ≤ i ∧ i < 6 * x + 6))
theorem hx_lnC (d : Nat) {m : Nat} {T : Nat → Int32} (hk : hx_Tk m T) {x : Nat} (hx : x < 8) {μ : hs_M} (hT : hx_TC μ m T) {k : Nat} (hkm : k ≤ m) (h7 : μ.1 8 0 7 = nI k) : ∃ μ', hc_Town_readLine (d + 4) (nI x) μ = some (some (vI (hx_tn (hx_lG T k && ((hx_lR T k).2.2 && !hx_pms (T (hx_lR T k).2.1))))), μ') ∧ hx_fr (hx_xL x) μ μ' ∧ μ'.1 8 0 7 = nI (hx_lE T k) ∧ ((hx_lG T k && ((hx_lR T k).2.2 && !hx_pms (T (hx_lR T k).2.1))) = true → μ'.1 19 0 x = nI (hx_lW T k) ∧ μ'.1 15 0 x = hx_lP T (hx_lK T k) ∧ μ'.1 16 0 x = 0 ∧ μ'.1 17 0 x = nI (hx_lR T k).1 ∧ ∀ i, i < (hx_lR T k).1 → μ'.1 18 0 (6 * x + i) = hx_cv T (hx_lS T (hx_lK T k) + 2 * i)) := by
  obtain ⟨μ1, a1, a2, a3, a4⟩ := hx_wtC d hk hx hT hkm h7
  have f1 : hx_fr (hx_xL x) μ μ1 := hx_mo (fun κ b i z => by unfold hx_xL; omega) a2
  unfold hx_lG hx_lE
  rw [hq_Town_readLine, a1, hx_bI, hx_tn0, hq_Town_readLine_26, hx_rz0]
  by_cases cA : hx_lA T k = true
  rotate_left
  · rw [if_neg cA] at a3 ⊢
    rw [if_neg cA, Bool.eq_false_iff.mpr cA]
    exact ⟨μ1, rfl, f1, a3, fun z => absurd (show false = true from z) (by decide)⟩
  rw [if_pos cA] at a3 ⊢
  rw [if_pos cA, cA]
  have bK : hx_lK T k ≤ m := (hx_nmp hk 3 k 0 hkm).2
  obtain ⟨μ2, b1, b2, b3, b4⟩ := hx_ptC d hk hx (hx_TCf a2 (fun i => by omega) hT) bK a3
  have f2 : hx_fr (hx_xL x) μ μ2 := hx_tr f1 (hx_mo (fun κ b i z => by unfold hx_xL; omega) b2)
  have hT2 := hx_TCf f2 (fun i => by unfold hx_xL; omega) hT
  rw [b1, hx_bI, hx_tn0, hq_Town_readLine_26, hx_rz0]
  by_cases cB : hx_lB T (hx_lK T k) = true
  rotate_left
  · rw [if_neg cB, if_neg cB, Bool.eq_false_iff.mpr cB]
    exact ⟨μ2, rfl, f2, b3, fun z => absurd (show false = true from z) (by decide)⟩
  rw [if_pos cB, if_pos cB, cB]
  have bS := (hx_lSb hk bK).2
  have f0 : hx_fr hx_xC μ2 (hs_wI μ2 8 0 6 (nI 0)) := hx_wr (hx_rf _ _) _ (by unfold hx_xC; omega)
  obtain ⟨μ3, c1, c2, c3, c4, c5, c6⟩ := hx_rcC d hk 6 0 (hx_lS T (hx_lK T k)) (hs_wI μ2 8 0 6 (nI 0)) (by omega) (hx_TCf f0 (fun i => by unfold hx_xC; omega) hT2) bS (by rw [hx_rd, if_neg (by omega), b3]) (by rw [hx_rd, if_pos ⟨rfl, rfl, rfl⟩])
  have bR := hx_rcb hk 6 (hx_lS T (hx_lK T k)) bS
  have eR : hx_rch T 6 (hx_lS T (hx_lK T k)) = hx_lR T k := rfl
  rw [eR] at c1 c3 c4 c6 bR
  have f23 := hx_tr f0 c2
  have f3 : hx_fr (hx_xL x) μ μ3 := hx_tr f2 (hx_mo (fun κ b i z => by unfold hx_xC at z; unfold hx_xL; omega) f23)
  rw [show hc_Town_readChanges (d + 3) μ2 = he_Town_readChanges_7 (d + 2) (nI 0) (hs_wI μ2 8 0 6 (nI 0)) from hq_Town_readChanges _ _, c1, hx_bI, hx_tn0, hq_Town_readLine_26, hx_rz0, Bool.and_self, Bool.true_and]
  by_cases cR : ((hx_lR T k).2.2 && !hx_pms (T (hx_lR T k).2.1)) = true
  rotate_left
  · rw [if_neg cR, Bool.eq_false_iff.mpr cR]
    exact ⟨μ3, rfl, f3, c3, fun z => absurd (show false = true from z) (by decide)⟩
  rw [if_pos cR, cR]
  obtain ⟨μ4, d1, d2, d3, d4⟩ := hx_draft (d + 2) hx μ3
  rw [d1, hx_bV, if_pos (hx_in (by omega) (by omega)), nI_clamp (by omega), hx_rz1]
  refine ⟨_, rfl, hx_wr (hx_tr f3 (hx_mo (fun κ b i z => by unfold hx_xL; omega) d2)) _ (by unfold hx_xL; omega), ?_, fun _ => ⟨?_, ?_, ?_, ?_, fun i hi => ?_⟩⟩
  · rw [hx_rd, if_neg (by omega), d2.1 8 0 7 (by omega), c3]
  · rw [hx_rd, if_neg (by omega), d2.1 19 0 x (by omega), f23.1 19 0 x (by unfold hx_xC; omega), b2.1 19 0 x (by omega), a4]
  · rw [hx_rd, if_neg (by omega), d2.1 15 0 x (by omega), f23.1 15 0 x (by unfold hx_xC; omega), b4 cB]
  · rw [hx_rd, if_pos ⟨rfl, rfl, rfl⟩]
  · rw [hx_rd, if_neg (by omega), d3, c4, Nat.zero_add]
  · have := c6 i hi
    rw [Nat.zero_add] at this
    rw [hx_rd, if_neg (by omega), d4 i (by omega), this]
