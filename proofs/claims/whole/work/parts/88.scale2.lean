/-! ===== E: span, grains ===== -/
theorem hx_rest {X Y : Nat → Nat → Nat → Prop} {μ μ1 : hs_M} (f : hx_fr X μ μ1) {a b c : Nat} (h : ∀ κ j i, X κ j i → Y κ j i ∨ (κ = a ∧ j = b ∧ i = c)) (h2 : ∀ κ j i, X κ j i → ¬ Y κ j i → μ1.2 κ j i = μ.2 κ j i) : hx_fr Y μ (hs_wI μ1 a b c (μ.1 a b c)) := by
  refine ⟨fun κ j i n => ?_, fun κ j i n => ?_⟩
  · rw [hx_rd]
    by_cases z : κ = a ∧ i = c ∧ j = b
    · rw [if_pos z, z.1, z.2.1, z.2.2]
    · rw [if_neg z]
      apply f.1
      intro x
      rcases h κ j i x with y | y
      · exact n y
      · exact z ⟨y.1, y.2.2, y.2.1⟩
  · rw [hx_rd2]
    rcases Classical.em (X κ j i) with x | x
    · exact h2 κ j i x n
    · exact f.2 κ j i x
theorem hx_wof (d : Nat) {μ : hs_M} {g : Nat} (hg1 : 1 ≤ g) (hg9 : g ≤ 9) {o : Int32} (e8 : μ.1 12 0 8 = nI g) (e9 : μ.1 12 0 9 = o) {P M : Nat} (h8 : P ≤ 8) {pw vv : Nat → Nat} (hO : hx_gO P M pw vv) (hR : hx_gR μ M pw vv) {p : Nat} (hp : p < 8) : hc_M_weightsOf (d + 4) (nI p) 0 μ = some (some (vI (nI (hx_sn (hx_wok g o M pw vv p) 999))), μ) := by
  rw [hq_M_weightsOf]
  have := hx_wofL d hg1 hg9 e8 e9 h8 hO hR hp 0 999 0 (by omega)
  rw [show he_M_weightsOf_11 (d + 3) (nI p) 0 0 0 0 1 μ = he_M_weightsOf_11 (d + 3) (nI p) 0 (nI (hx_sn (hx_wok g o M pw vv p) 0)) (hx_s1 (hx_wok g o M pw vv p) hx_ev 0) (hx_s2 (hx_wok g o M pw vv p) hx_ev 0) (nI (0 + 1)) μ from rfl, this, hq_M_weightsOf_11, if_pos (by decide), if_pos rfl, hq_M_weightsOf_68]
theorem hx_wofT (d : Nat) {μ : hs_M} {g : Nat} (hg1 : 1 ≤ g) (hg9 : g ≤ 9) {o : Int32} (e8 : μ.1 12 0 8 = nI g) (e9 : μ.1 12 0 9 = o) {P M : Nat} (h8 : P ≤ 8) {pw vv : Nat → Nat} (hO : hx_gO P M pw vv) (hR : hx_gR μ M pw vv) {p : Nat} (hp : p < 8) : ∃ μ', hc_M_weightsOf (d + 4) (nI p) 1 μ = some (some (vI (nI (hx_sn (hx_wok g o M pw vv p) 999))), μ') ∧ hx_fr hx_yR μ μ' ∧ hx_rwR μ' (hx_r2 (hx_sn (hx_wok g o M pw vv p) 999) (hx_s1 (hx_wok g o M pw vv p) hx_ev 999) (hx_s2 (hx_wok g o M pw vv p) hx_ev 999)) := by
  have sl := hx_snle (hx_wok g o M pw vv p) 999
  obtain ⟨μ1, e1, f1, r1⟩ := hx_tells (d + 1) (n := hx_sn (hx_wok g o M pw vv p) 999) (by omega) (hx_s1 (hx_wok g o M pw vv p) hx_ev 999) (hx_s2 (hx_wok g o M pw vv p) hx_ev 999) μ
  rw [hq_M_weightsOf]
  have := hx_wofL d hg1 hg9 e8 e9 h8 hO hR hp 1 999 0 (by omega)
  rw [show he_M_weightsOf_11 (d + 3) (nI p) 1 0 0 0 1 μ = he_M_weightsOf_11 (d + 3) (nI p) 1 (nI (hx_sn (hx_wok g o M pw vv p) 0)) (hx_s1 (hx_wok g o M pw vv p) hx_ev 0) (hx_s2 (hx_wok g o M pw vv p) hx_ev 0) (nI (0 + 1)) μ from rfl, this, hq_M_weightsOf_11, if_pos (by decide), if_neg (by decide), e1, hx_bV, hq_M_weightsOf_68]
  exact ⟨μ1, rfl, f1, r1⟩
theorem hx_xNq {μ μ' : hs_M} (f : hx_fr hx_xN μ μ') : hx_fr hx_qC μ μ' := hx_mo (fun κ b i x => by unfold hx_xN at x; unfold hx_qC; omega) f
theorem hx_gRX {μ μ' : hs_M} (f : hx_fr hx_qX μ μ') {M : Nat} {pw vv : Nat → Nat} (h : hx_gR μ M pw vv) : hx_gR (hs_wI μ' 12 0 0 0) M pw vv := by
  refine ⟨by rw [hx_rd, if_neg (by omega), f.1 12 0 34 (by unfold hx_qX hx_qC; omega)]; exact h.1, fun k hk => ?_⟩
  rw [hx_rd, if_neg (by omega), f.1 59 0 k (by unfold hx_qX hx_qC; omega), hx_rd, if_neg (by omega), f.1 60 0 k (by unfold hx_qX hx_qC; omega)]
  exact h.2 k hk
theorem hx_span (d : Nat) {n : Nat} (hn : n ≤ 512) {E : hx_Env} {t : hx_St} {μ : hs_M} (h : hx_I n E t μ) (x : Int32) : hx_A n μ (hc_H_span (d + 5) x) (hc_M_span (d + 5) x) := by
  have h8 := h.1.1.1
  have h0 := hx_I0 (hx_Ia h)
  obtain ⟨M, pw, vv, hO, hC, hR⟩ := hx_iWx h8 h.2.2.2.2.2.2.2.2.2.1
  by_cases c : hx_isP (hx_P E) x = true
  · obtain ⟨p, hp, ex⟩ := hx_isPn c
    have g1 := h.1.1.2.2.1
    have g9 := h.1.1.2.2.2.1
    have ho := h.1.1.2.2.2.2.2
    have sl := hx_snle (hx_wok (hx_G E) (hx_O E) M pw vv p) 999
    obtain ⟨μ1, e1, f1, w1⟩ := hx_narrow (d + 1) g1 g9 h.1.2.2.2.2.2.2.2.1 ho.1 ho.2 h8 hO hC (p := p) (by omega)
    obtain ⟨μ2, e2, f2, r2⟩ := hx_range (d + 2) (n := hx_sn (hx_wok (hx_G E) (hx_O E) M pw vv p) 999) (by omega) (μ1.1 5 0 2) (μ1.1 5 0 3) μ1
    have er : hx_r2 (hx_sn (hx_wok (hx_G E) (hx_O E) M pw vv p) 999) (μ1.1 5 0 2) (μ1.1 5 0 3) = hx_r2 (hx_sn (hx_wok (hx_G E) (hx_O E) M pw vv p) 999) (hx_s1 (hx_wok (hx_G E) (hx_O E) M pw vv p) hx_ev 999) (hx_s2 (hx_wok (hx_G E) (hx_O E) M pw vv p) hx_ev 999) := by
      unfold hx_r2
      by_cases z : hx_sn (hx_wok (hx_G E) (hx_O E) M pw vv p) 999 = 0
      · rw [if_pos z, if_pos z]
      · obtain ⟨a, b⟩ := w1 (by omega)
        rw [if_neg z, if_neg z, a, b]
    rw [er] at r2
    have q2 := hx_tr (hx_qCX (hx_xNq f1)) (hx_xRq f2)
    have hI := hx_I0 (hx_Ir h q2)
    obtain ⟨μ3, e3, f3, r3⟩ := hx_wofT d g1 g9 hI.2.1.2.2.2.2.2.2.1 hI.2.1.2.2.2.2.2.2.2.1 h8 hO (hx_gRX q2 hR) (p := p) (by omega)
    refine ⟨nI (hx_sn (hx_wok (hx_G E) (hx_O E) M pw vv p) 999), μ2, μ3, ?_, ?_, E, t, hx_Iq1 h q2 r2 (hx_tr (hx_wr (hx_rf _ _) _ (by unfold hx_qY hx_qR; omega)) (hx_yRq f3)) r3⟩
    · rw [hq_H_span, hx_thas _ h.1, hx_bI, hx_tn0, if_pos c, ex, h.1.2.2.2.2.2.2.1, e1, hx_bI, e2, hx_bV]
    · rw [hq_M_span, hx_isPM _ hI.2.1, hx_bI, hx_tn0, if_pos c, ex, e3, hx_bI]
  · apply hx_Anone h (v := -1)
    · rw [hq_H_span, hx_thas _ h.1, hx_bI, hx_tn0, if_neg c]
    · rw [hq_M_span, hx_isPM _ h0.2.1, hx_bI, hx_tn0, if_neg c]
/-! grains -/
def hx_gk (o : Int32) (M : Nat) (pw vv : Nat → Nat) (g : Nat) : Nat → Bool
  | 0 => true
  | p + 1 => hx_gk o M pw vv g p && decide (0 < hx_sn (hx_wok g o M pw vv p) 999)
theorem hx_gkS (o : Int32) (M : Nat) (pw vv : Nat → Nat) (g p : Nat) : hx_gk o M pw vv g (p + 1) = (hx_gk o M pw vv g p && decide (0 < hx_sn (hx_wok g o M pw vv p) 999)) := rfl
theorem hx_gkF {o : Int32} {M : Nat} {pw vv : Nat → Nat} {g p : Nat} (h : hx_gk o M pw vv g p = false) : ∀ m, hx_gk o M pw vv g (p + m) = false
  | 0 => h
  | m + 1 => by
    rw [show p + (m + 1) = p + m + 1 from rfl, hx_gkS, hx_gkF h m, Bool.false_and]
def hx_gt (o : Int32) (P M : Nat) (pw vv : Nat → Nat) : Nat → Int32
  | 0 => 0
  | k + 1 => if hx_gk o M pw vv (k + 1) P = true then hx_gt o P M pw vv k ||| ((1 : Int32) <<< (nI (k + 1) &&& 31)) else hx_gt o P M pw vv k
theorem hx_gtS (o : Int32) (P M : Nat) (pw vv : Nat → Nat) (k : Nat) : hx_gt o P M pw vv (k + 1) = if hx_gk o M pw vv (k + 1) P = true then hx_gt o P M pw vv k ||| ((1 : Int32) <<< (nI (k + 1) &&& 31)) else hx_gt o P M pw vv k := rfl
theorem hx_grC1 (d : Nat) {g : Nat} (hg1 : 1 ≤ g) (hg9 : g ≤ 9) {o : Int32} (ho1 : -9 ≤ o.toInt) (ho2 : o.toInt ≤ 9) {P M : Nat} (h8 : P ≤ 8) {pw vv : Nat → Nat} (hO : hx_gO P M pw vv) (x3 : Int32) : ∀ (m k : Nat) (μ : hs_M), k + m = P → μ.1 5 0 1 = o → hx_gC μ M pw vv → ∃ μ', he_Scale_possibleGrains_18 (d + 3) 0 (nI P) x3 (nI g) (hx_tn (hx_gk o M pw vv g k)) (nI k) μ = he_Scale_possibleGrains_54 (d + 3) 0 (nI P) x3 (nI g) (hx_tn (hx_gk o M pw vv g P)) μ' ∧ hx_fr hx_xN μ μ'
  | 0, k, μ, hk, e5, hC => by
    rw [hq_Scale_possibleGrains_18, if_neg (nI_nlt (by omega) (by omega)), show k = P from hk]
    exact ⟨μ, rfl, hx_rf _ _⟩
  | m + 1, k, μ, hk, e5, hC => by
    have sl := hx_snle (hx_wok g o M pw vv k) 999
    rw [hq_Scale_possibleGrains_18, if_pos (nI_lt (by omega) (by omega)), hx_tn0]
    by_cases c : hx_gk o M pw vv g k = true
    · obtain ⟨μ1, e1, f1, _⟩ := hx_narrow d hg1 hg9 e5 ho1 ho2 h8 hO hC (p := k) (by omega)
      obtain ⟨μ2, e2, f2⟩ := hx_grC1 d hg1 hg9 ho1 ho2 h8 hO x3 m (k + 1) μ1 (by omega) (by rw [f1.1 5 0 1 (by unfold hx_xN; omega), e5]) (hx_gCN f1 hC)
      refine ⟨μ2, ?_, hx_tr f1 f2⟩
      rw [if_pos c, e1, hx_bI, nI_1, ← e2, hx_gkS, c, Bool.true_and]
      by_cases z : 0 < hx_sn (hx_wok g o M pw vv k) 999
      · rw [if_pos (show (0 : Int32) < nI (hx_sn (hx_wok g o M pw vv k) 999) from nI_lt (a := 0) z (by omega)), decide_eq_true z]
        rfl
      · rw [if_neg (show ¬ (0 : Int32) < nI (hx_sn (hx_wok g o M pw vv k) 999) from nI_nlt (a := 0) (by omega) (by omega)), decide_eq_false z]
        rfl
    · rw [if_neg c]
      rw [Bool.not_eq_true] at c
      have := hx_gkF c (m + 1)
      rw [hk] at this
      rw [this, c]
      exact ⟨μ, rfl, hx_rf _ _⟩
theorem hx_grC (d : Nat) {o : Int32} (ho1 : -9 ≤ o.toInt) (ho2 : o.toInt ≤ 9) {P M : Nat} (h8 : P ≤ 8) {pw vv : Nat → Nat} (hO : hx_gO P M pw vv) : ∀ (m k : Nat) (μ : hs_M), k + m = 9 → μ.1 5 0 1 = o → hx_gC μ M pw vv → ∃ μ', he_Scale_possibleGrains_5 (d + 3) 0 (nI P) (hx_gt o P M pw vv k) (nI (k + 1)) μ = some (some (vI (hx_gt o P M pw vv 9)), μ') ∧ hx_fr hx_xN μ μ'
  | 0, k, μ, hk, e5, hC => by
    rw [hq_Scale_possibleGrains_5, if_pos (show (9 : Int32) < nI (k + 1) from nI_lt (a := 9) (by omega) (by omega)), show k = 9 from hk]
    exact ⟨μ, rfl, hx_rf _ _⟩
  | m + 1, k, μ, hk, e5, hC => by
    obtain ⟨μ1, e1, f1⟩ := hx_grC1 d (g := k + 1) (by omega) (by omega) ho1 ho2 h8 hO (hx_gt o P M pw vv k) P 0 μ (by omega) e5 hC
    obtain ⟨μ2, e2, f2⟩ := hx_grC d ho1 ho2 h8 hO m (k + 1) μ1 (by omega) (by rw [f1.1 5 0 1 (by unfold hx_xN; omega), e5]) (hx_gCN f1 hC)
    refine ⟨μ2, ?_, hx_tr f1 f2⟩
    rw [hq_Scale_possibleGrains_5, if_neg (show ¬ (9 : Int32) < nI (k + 1) from nI_nlt (a := 9) (by omega) (by omega)), show he_Scale_possibleGrains_18 (d + 3) 0 (nI P) (hx_gt o P M pw vv k) (nI (k + 1)) 1 0 μ = he_Scale_possibleGrains_18 (d + 3) 0 (nI P) (hx_gt o P M pw vv k) (nI (k + 1)) (hx_tn (hx_gk o M pw vv (k + 1) 0)) (nI 0) μ from rfl, e1, hq_Scale_possibleGrains_54, hx_tn0, hq_Scale_possibleGrains_66, hq_Scale_possibleGrains_66, nI_1, ← e2, hx_gtS]
    by_cases c : hx_gk o M pw vv (k + 1) P = true
    · rw [if_pos c, if_pos c]
    · rw [if_neg c, if_neg c]
theorem hx_grR1 (d : Nat) {μ : hs_M} {g : Nat} (hg1 : 1 ≤ g) (hg9 : g ≤ 9) {o : Int32} (e8 : μ.1 12 0 8 = nI g) (e9 : μ.1 12 0 9 = o) {P M : Nat} (h8 : P ≤ 8) (eP : μ.1 12 0 3 = nI P) {pw vv : Nat → Nat} (hO : hx_gO P M pw vv) (hR : hx_gR μ M pw vv) (x1 x2 : Int32) : ∀ (m k : Nat), k + m = P → he_M_grains_31 (d + 4) x1 x2 (nI g) (hx_tn (hx_gk o M pw vv g k)) (nI k) μ = he_M_grains_31 (d + 4) x1 x2 (nI g) (hx_tn (hx_gk o M pw vv g P)) (nI P) μ
  | 0, k, hk => by rw [show k = P from hk]
  | m + 1, k, hk => by
    have sl := hx_snle (hx_wok g o M pw vv k) 999
    have ih := hx_grR1 d hg1 hg9 e8 e9 h8 eP hO hR x1 x2 m (k + 1) (by omega)
    rw [← ih]
    conv => lhs; rw [hq_M_grains_31]
    rw [eP, if_pos (nI_lt (by omega) (by omega)), hx_tn0, hx_wof d hg1 hg9 e8 e9 h8 hO hR (by omega), hx_bI, hq_M_grains_59, nI_1, hx_gkS]
    by_cases c : hx_gk o M pw vv g k = true
    · rw [if_pos c, c, Bool.true_and]
      by_cases z : 0 < hx_sn (hx_wok g o M pw vv k) 999
      · rw [if_pos (show (0 : Int32) < nI (hx_sn (hx_wok g o M pw vv k) 999) from nI_lt (a := 0) z (by omega)), decide_eq_true z]
        rfl
      · rw [if_neg (show ¬ (0 : Int32) < nI (hx_sn (hx_wok g o M pw vv k) 999) from nI_nlt (a := 0) (by omega) (by omega)), decide_eq_false z]
        rfl
    · rw [if_neg c]
      rw [Bool.not_eq_true] at c
      rw [c, Bool.false_and]
      rfl
theorem hx_grR (d : Nat) {μ0 : hs_M} {o : Int32} (e9 : μ0.1 12 0 9 = o) {P M : Nat} (h8 : P ≤ 8) (eP : μ0.1 12 0 3 = nI P) {pw vv : Nat → Nat} (hO : hx_gO P M pw vv) (hR : hx_gR μ0 M pw vv) (x1 : Int32) : ∀ (m k : Nat) (μ : hs_M), k + m = 9 → hx_fr (fun κ j i => κ = 12 ∧ j = 0 ∧ i = 8) μ0 μ → μ.2 = μ0.2 → ∃ μ', he_M_grains_14 (d + 4) x1 (hx_gt o P M pw vv k) (nI (k + 1)) μ = some (some (vI (hx_gt o P M pw vv 9)), hs_wI μ' 12 0 8 x1) ∧ hx_fr (fun κ j i => κ = 12 ∧ j = 0 ∧ i = 8) μ0 μ' ∧ μ'.2 = μ0.2
  | 0, k, μ, hk, f, l => by
    rw [hq_M_grains_14, if_pos (show (9 : Int32) < nI (k + 1) from nI_lt (a := 9) (by omega) (by omega)), show k = 9 from hk]
    exact ⟨μ, rfl, f, l⟩
  | m + 1, k, μ, hk, f, l => by
    have f1 : hx_fr (fun κ j i => κ = 12 ∧ j = 0 ∧ i = 8) μ0 (hs_wI μ 12 0 8 (nI (k + 1))) := hx_wr f _ ⟨rfl, rfl, rfl⟩
    have g1 := hx_grR1 d (μ := hs_wI μ 12 0 8 (nI (k + 1))) (g := k + 1) (by omega) (by omega) (by rw [hx_rd, if_pos ⟨rfl, rfl, rfl⟩]) (by rw [f1.1 12 0 9 (by omega), e9]) h8 (by rw [f1.1 12 0 3 (by omega), eP]) hO ⟨by rw [f1.1 12 0 34 (by omega)]; exact hR.1, fun k hk => by rw [f1.1 59 0 k (by omega), f1.1 60 0 k (by omega)]; exact hR.2 k hk⟩ x1 (hx_gt o P M pw vv k) P 0 (by omega)
    obtain ⟨μ2, e2, f2, l2⟩ := hx_grR d e9 h8 eP hO hR x1 m (k + 1) (hs_wI μ 12 0 8 (nI (k + 1))) (by omega) f1 l
    refine ⟨μ2, ?_, f2, l2⟩
    rw [hq_M_grains_14, if_neg (show ¬ (9 : Int32) < nI (k + 1) from nI_nlt (a := 9) (by omega) (by omega)), show he_M_grains_31 (d + 4) x1 (hx_gt o P M pw vv k) (nI (k + 1)) 1 0 (hs_wI μ 12 0 8 (nI (k + 1))) = he_M_grains_31 (d + 4) x1 (hx_gt o P M pw vv k) (nI (k + 1)) (hx_tn (hx_gk o M pw vv (k + 1) 0)) (nI 0) (hs_wI μ 12 0 8 (nI (k + 1))) from rfl, g1, hq_M_grains_31, f1.1 12 0 3 (by omega), eP, if_neg (nI_nlt (by omega) (by omega)), hx_tn0, nI_1, Int32.or_zero, ← e2, hx_gtS]
    by_cases c : hx_gk o M pw vv (k + 1) P = true
    · rw [if_pos c, if_pos c]
    · rw [if_neg c, if_neg c]
theorem hx_grains (d : Nat) {n : Nat} (hn : n ≤ 512) {E : hx_Env} {t : hx_St} {μ : hs_M} (h : hx_I n E t μ) : hx_A n μ (hc_H_grains (d + 5)) (hc_M_grains (d + 5)) := by
  have h8 := h.1.1.1
  obtain ⟨M, pw, vv, hO, hC, hR⟩ := hx_iWx h8 h.2.2.2.2.2.2.2.2.2.1
  have ho := h.1.1.2.2.2.2.2
  obtain ⟨μ1, e1, f1⟩ := hx_grC d ho.1 ho.2 h8 hO 9 0 μ (by omega) h.1.2.2.2.2.2.2.2.1 hC
  have q1 := hx_xNq f1
  have hI := hx_I0 (hx_Ir h (hx_qCX q1))
  obtain ⟨μ2, e2, f2, l2⟩ := hx_grR d hI.2.1.2.2.2.2.2.2.2.1 h8 hI.2.1.2.1 hO (hx_gRX (hx_qCX q1) hR) (μ1.1 12 0 8) 9 0 (hs_wI μ1 12 0 0 0) (by omega) (hx_rf _ _) rfl
  have e8 : μ1.1 12 0 8 = (hs_wI μ1 12 0 0 0).1 12 0 8 := by rw [hx_rd, if_neg (by omega)]
  have f3 : hx_fr hx_qR (hs_wI μ1 12 0 0 0) (hs_wI μ2 12 0 8 (μ1.1 12 0 8)) := by
    rw [e8]
    exact hx_rest f2 (fun κ j i x => Or.inr x) (fun κ j i x y => by rw [l2])
  refine ⟨hx_gt (hx_O E) (hx_P E) M pw vv 9, μ1, hs_wI μ2 12 0 8 (μ1.1 12 0 8), ?_, ?_, E, t, hx_Iq0 h q1 (hx_tr (hx_wr (hx_rf _ _) _ (by unfold hx_qR; omega)) f3)⟩
  · rw [hq_H_grains, hq_Scale_possibleGrains, hx_eP h.1]
    rw [show he_Scale_possibleGrains_5 (d + 3) 0 (nI (hx_P E)) 0 1 μ = he_Scale_possibleGrains_5 (d + 3) 0 (nI (hx_P E)) (hx_gt (hx_O E) (hx_P E) M pw vv 0) (nI (0 + 1)) μ from rfl, e1, hx_bI]
  · rw [hq_M_grains]
    exact e2
