/-! ===== E: who can ever serve ===== -/
/-- somebody who may serve is lighter -/
def hx_ex (E : hx_Env) (s : hx_St) (rc : Int32) (p : Nat) : Nat → Bool
  | 0 => false
  | o + 1 => hx_ex E s rc p o || (bt rc o && decide (hx_sw E (s o) < hx_sw E (s p)))
theorem hx_exS (E : hx_Env) (s : hx_St) (rc : Int32) (p o : Nat) : hx_ex E s rc p (o + 1) = (hx_ex E s rc p o || (bt rc o && decide (hx_sw E (s o) < hx_sw E (s p)))) := rfl
def hx_cm (E : hx_Env) (s : hx_St) (rc : Int32) (p : Nat) : Bool := bt rc 8 || hx_ex E s rc p (hx_P E)
def hx_rs (E : hx_Env) (s : hx_St) (rc : Int32) : Int32 := rc ||| hx_bits (fun p => bt (s 16) p && hx_cm E s rc p) (hx_P E)
def hx_mi (E : hx_Env) (s : hx_St) (rc : Int32) : Nat → Int32
  | 0 => 1010
  | n + 1 => if bt rc n = true then hx_mn (hx_mi E s rc n) (hx_sw E (s n)) else hx_mi E s rc n
theorem hx_miS (E : hx_Env) (s : hx_St) (rc : Int32) (n : Nat) : hx_mi E s rc (n + 1) = if bt rc n = true then hx_mn (hx_mi E s rc n) (hx_sw E (s n)) else hx_mi E s rc n := rfl
theorem hx_mie (E : hx_Env) (s : hx_St) (rc : Int32) (p : Nat) (hw : ¬ (1010 : Int32) < hx_sw E (s p)) : ∀ n, decide (hx_mi E s rc n < hx_sw E (s p)) = hx_ex E s rc p n
  | 0 => decide_eq_false hw
  | n + 1 => by
    have ih := hx_mie E s rc p hw n
    rw [hx_miS, hx_exS, ← ih]
    by_cases c : bt rc n = true
    · rw [if_pos c, c, Bool.true_and]
      unfold hx_mn
      by_cases a : hx_sw E (s n) < hx_mi E s rc n
      · rw [if_pos a]
        by_cases b : hx_sw E (s n) < hx_sw E (s p)
        · rw [decide_eq_true b, Bool.or_true]
        · rw [decide_eq_false b, Bool.or_false, decide_eq_false]
          rw [hx_li] at *
          omega
      · rw [if_neg a]
        by_cases b : hx_mi E s rc n < hx_sw E (s p)
        · rw [decide_eq_true b, Bool.true_or]
        · rw [decide_eq_false b, Bool.false_or, decide_eq_false]
          rw [hx_li] at *
          omega
    · rw [if_neg c]
      rw [Bool.not_eq_true] at c
      rw [c, Bool.false_and, Bool.or_false]
def hx_lg (E : hx_Env) (s : hx_St) (rc : Int32) : Int32 := if bt rc 8 = true then -1 else hx_mi E s rc (hx_P E)
/-- what is shown of a sound weight is never above 1010 -/
theorem hx_sw10 {E : hx_Env} (h : hx_ok E) {t : hx_St} {W : Nat} (ht : hx_tw (hx_P E) W t) {p : Nat} (hp : p < hx_P E) : ¬ (1010 : Int32) < hx_sw E (t p) := by
  obtain ⟨n, h1, h9, e⟩ := ht.2.2.2 p hp
  unfold hx_sw hx_sh
  rw [e]
  by_cases c : nI n + hx_O E < 0
  · rw [if_pos c]
    decide
  · rw [if_neg c]
    obtain ⟨m, hm, em⟩ := nI_of c
    have hi : (nI n + hx_O E).toInt = (n : Int) + (hx_O E).toInt := by
      have o1 := h.2.2.2.2.2.1
      have o2 := h.2.2.2.2.2.2
      rw [Int32.toInt_add, nI_toInt (by omega)]
      unfold Int.bmod
      dsimp only
      split <;> omega
    rw [em, nI_toInt hm] at hi
    have o2 := h.2.2.2.2.2.2
    rw [em, pk_rem hm h.2.2.1 (by have := h.2.2.2.1; omega), pk_sub (Nat.mod_le _ _)]
    exact nI_nlt (a := 1010) (Nat.le_trans (Nat.sub_le _ _) (by omega)) (by omega)
theorem hx_lgc {E : hx_Env} (hE : hx_ok E) (s : hx_St) (rc : Int32) (p : Nat) (hw : ¬ (1010 : Int32) < hx_sw E (s p)) : decide (hx_lg E s rc < hx_sw E (s p)) = hx_cm E s rc p := by
  unfold hx_lg hx_cm
  by_cases c : bt rc 8 = true
  · rw [if_pos c, c, Bool.true_or, decide_eq_true (hx_sw1 hE _)]
  · rw [if_neg c, hx_mie E s rc p hw]
    rw [Bool.not_eq_true] at c
    rw [c, Bool.false_or]
theorem hx_b256 (x : Int32) : (x &&& 256 = 0) ↔ bt x 8 = false := by
  have b256 : ∀ i, i < 32 → bt 256 i = decide (i = 8) := by decide +kernel
  constructor
  · intro h
    have := congrArg (fun y => bt y 8) h
    rw [b_and, b256 8 (by omega), b_0] at this
    simpa using this
  · intro h
    apply b_ext
    intro i hi
    rw [b_and, b256 i hi, b_0]
    by_cases c : i = 8
    · rw [c, h]
      rfl
    · rw [decide_eq_false c, Bool.and_false]
theorem hx_liL (d : Nat) {μ : hs_M} {E : hx_Env} (hE : hx_EC μ E) {s : hx_St} (hs : hx_SC μ 35 s) (rc : Int32) : ∀ (m k : Nat), k + m = hx_P E → he_Future_lightest_16 (d + 1) rc (hx_mi E s rc k) (nI k) μ = some (some (vI (hx_mi E s rc (hx_P E))), μ)
  | 0, k, hk => by
    have h8 := hE.1.1
    rw [hq_Future_lightest_16, hx_eP hE, if_neg (nI_nlt (by omega) (by omega)), show k = hx_P E from hk]
  | m + 1, k, hk => by
    have h8 := hE.1.1
    have ih := hx_liL d hE hs rc m (k + 1) (by omega)
    rw [hx_miS] at ih
    rw [hq_Future_lightest_16, hx_eP hE, if_pos (nI_lt (by omega) (by omega)), hx_bt0 _ (by omega), if_pos (hx_in (by omega) (by omega)), nI_clamp (by omega), hs.1 k (by omega), hx_eS hE, hx_bI, hx_min, hx_bI, hq_Future_lightest_59, hq_Future_lightest_59, nI_1]
    by_cases c : bt rc k = true
    · rw [if_pos c] at ih ⊢
      exact ih
    · rw [if_neg c] at ih ⊢
      exact ih
theorem hx_light (d : Nat) {μ : hs_M} {E : hx_Env} (hE : hx_EC μ E) {s : hx_St} (hs : hx_SC μ 35 s) (rc : Int32) : hc_Future_lightest (d + 2) rc μ = some (some (vI (hx_lg E s rc)), μ) := by
  rw [hq_Future_lightest]
  unfold hx_lg
  by_cases c : bt rc 8 = true
  · rw [if_neg (by rw [hx_b256, c]; decide), if_pos c]
  · rw [if_neg c]
    rw [Bool.not_eq_true] at c
    rw [if_pos (by rw [hx_b256, c])]
    exact hx_liL d hE hs rc (hx_P E) 0 (by omega)
theorem hx_heL (d : Nat) {μ : hs_M} {E : hx_Env} (hE : hx_EC μ E) {s : hx_St} (hs : hx_SC μ 35 s) (b : Int32) : ∀ (m k : Nat), k + m = hx_P E → he_Future_heavierThan_4 (d + 1) b (hx_bits (fun p => bt (s 16) p && decide (b < hx_sw E (s p))) k) (nI k) μ = some (some (vI (hx_bits (fun p => bt (s 16) p && decide (b < hx_sw E (s p))) (hx_P E))), μ)
  | 0, k, hk => by
    have h8 := hE.1.1
    rw [hq_Future_heavierThan_4, hx_eP hE, if_neg (nI_nlt (by omega) (by omega)), show k = hx_P E from hk]
  | m + 1, k, hk => by
    have h8 := hE.1.1
    have ih := hx_heL d hE hs b m (k + 1) (by omega)
    rw [hx_bitsS] at ih
    rw [hq_Future_heavierThan_4, hx_eP hE, if_pos (nI_lt (by omega) (by omega)), hx_lives _ _ (by omega), hx_bI, hx_tn0, hs.2.2.1, if_pos (hx_in (by omega) (by omega)), nI_clamp (by omega), hs.1 k (by omega), hx_eS hE, hx_bI, hq_Future_heavierThan_55, hq_Future_heavierThan_55, nI_1]
    by_cases c : bt (s 16) k = true
    · rw [if_pos c]
      rw [c, Bool.true_and] at ih
      by_cases c2 : b < hx_sw E (s k)
      · rw [if_pos c2]
        rw [if_pos (decide_eq_true c2)] at ih
        exact ih
      · rw [if_neg c2]
        rw [if_neg (by rw [decide_eq_false c2]; decide)] at ih
        exact ih
    · rw [if_neg c]
      rw [Bool.not_eq_true] at c
      rw [c, Bool.false_and, if_neg (by decide)] at ih
      exact ih
theorem hx_heavy (d : Nat) {μ : hs_M} {E : hx_Env} (hE : hx_EC μ E) {s : hx_St} (hs : hx_SC μ 35 s) {W : Nat} (hw : hx_tw (hx_P E) W s) (rc : Int32) : hc_Future_heavierThan (d + 2) (hx_lg E s rc) μ = some (some (vI (hx_bits (fun p => bt (s 16) p && hx_cm E s rc p) (hx_P E))), μ) := by
  rw [hq_Future_heavierThan]
  have := hx_heL d hE hs (hx_lg E s rc) (hx_P E) 0 (by omega)
  rw [hx_bitsC (g := fun p => bt (s 16) p && hx_cm E s rc p) (hx_P E) (fun i hi => by rw [hx_lgc hE.1 s rc i (hx_sw10 hE.1 hw hi)])] at this
  exact this
/-- states and who may serve, week by week -/
noncomputable def hx_es (E : hx_Env) (t : hx_St) : Nat → hx_St
  | 0 => t
  | k + 1 => hx_stp E (hx_es E t k) (bt 0)
theorem hx_esS (E : hx_Env) (t : hx_St) (k : Nat) : hx_es E t (k + 1) = hx_stp E (hx_es E t k) (bt 0) := rfl
noncomputable def hx_er (E : hx_Env) (t : hx_St) (r0 : Int32) : Nat → Int32
  | 0 => r0
  | k + 1 => hx_rs E (hx_es E t k) (hx_er E t r0 k)
theorem hx_erS (E : hx_Env) (t : hx_St) (r0 : Int32) (k : Nat) : hx_er E t r0 (k + 1) = hx_rs E (hx_es E t k) (hx_er E t r0 k) := rfl
noncomputable def hx_ea (E : hx_Env) (t : hx_St) (r0 : Int32) : Nat → Int32
  | 0 => 0
  | k + 1 => hx_ea E t r0 k ||| (hx_er E t r0 (k + 1) &&& 255)
theorem hx_eaS (E : hx_Env) (t : hx_St) (r0 : Int32) (k : Nat) : hx_ea E t r0 (k + 1) = hx_ea E t r0 k ||| (hx_er E t r0 (k + 1) &&& 255) := rfl
noncomputable def hx_el (E : hx_Env) (t : hx_St) (r0 : Int32) (k : Nat) : Int32 := if k = 0 then 0 else hx_er E t r0 k &&& 255
theorem hx_estw {E : hx_Env} (h8 : hx_P E ≤ 8) {t : hx_St} {W : Nat} (ht : hx_tw (hx_P E) W t) : ∀ n, W + n < 2 ^ 30 → hx_tw (hx_P E) (W + n) (hx_es E t n)
  | 0, _ => ht
  | n + 1, h => hx_stw h8 (by omega) (hx_estw h8 ht n (by omega)) _
theorem hx_sa0 {E : hx_Env} (s : hx_St) : hx_stp E s (hx_sa E s 0 0) = hx_stp E s (bt 0) := by
  apply hx_stc
  intro p _ _
  unfold hx_sa
  rw [b_0]
  rfl
theorem hx_evC (d : Nat) {E : hx_Env} {W : Nat} {t : hx_St} (ht : hx_tw (hx_P E) W t) {n : Nat} (hn : W + n < 2 ^ 30) (r0 : Int32) : ∀ (m k : Nat) (μ : hs_M), k + m = n → hx_EC μ E → hx_SC μ 35 (hx_es E t k) → ∃ μ', he_Future_reachable_45 (d + 4) (nI n) (hx_ea E t r0 k) (hx_el E t r0 k) (hx_er E t r0 k) (nI k) μ = some (some (vI (hx_ea E t r0 n)), μ') ∧ hx_fr hx_qX μ μ' ∧ hx_rwC μ' [(hx_el E t r0 n).toInt64]
  | 0, k, μ, hk, hE, hs => by
    have e : k = n := hk
    subst e
    obtain ⟨μ1, e1, f1, r1⟩ := hx_begin (d + 2) μ (hx_el E t r0 k).toInt64
    rw [hq_Future_reachable_45, if_neg (nI_nlt (by omega) (by omega)), e1, hx_bV]
    exact ⟨μ1, rfl, hx_xRq f1, r1⟩
  | m + 1, k, μ, hk, hE, hs => by
    have h8 := hE.1.1
    obtain ⟨μ1, e1, f1, s1, _⟩ := hx_pass d hE (by omega) (hx_estw h8 ht k (by omega)) hs 0 0
    rw [hx_sa0, ← hx_esS] at s1
    have q1 := hx_qCX (hx_xSq (by omega) f1)
    obtain ⟨μ2, e2, f2, r2⟩ := hx_evC d ht hn r0 m (k + 1) μ1 (by omega) (hx_ECq q1 hE) s1
    refine ⟨μ2, ?_, hx_tr q1 f2, r2⟩
    rw [hq_Future_reachable_45, if_pos (nI_lt (by omega) (by omega)), hx_light _ hE hs, hx_bI, hx_heavy _ hE hs (hx_estw h8 ht k (by omega)), hx_bI, e1, hx_bV, nI_1, ← e2, hx_eaS]
    rfl
theorem hx_exL (d : Nat) {κ : Nat} (hκ : κ = 46) {μ : hs_M} {E : hx_Env} (hE : hx_ER μ E) {s : hx_St} (hs : hx_SR μ κ 0 s) (x1 x2 rc x4 x5 x6 : Int32) {p : Nat} (hp : p < hx_P E) : ∀ (m k : Nat), k + m = hx_P E → he_M_ever_89 (d + 2) x1 x2 rc x4 x5 x6 (nI p) (hx_tn (bt rc 8 || hx_ex E s rc p k)) (nI k) μ = he_M_ever_89 (d + 2) x1 x2 rc x4 x5 x6 (nI p) (hx_tn (hx_cm E s rc p)) (nI (hx_P E)) μ
  | 0, k, hk => by
    rw [show k = hx_P E from hk]
    rfl
  | m + 1, k, hk => by
    subst hκ
    have h8 := hE.1.1
    have ih := hx_exL d rfl hE hs x1 x2 rc x4 x5 x6 hp m (k + 1) (by omega)
    rw [← ih, hx_exS, hq_M_ever_89, hx_rP hE, if_pos (nI_lt (by omega) (by omega)), hx_tn0, hq_M_ever_144, hq_M_ever_148, nI_1]
    by_cases c1 : (bt rc 8 || hx_ex E s rc p k) = true
    · rw [if_pos c1, ← Bool.or_assoc, c1, Bool.true_or]
      rfl
    · rw [if_neg c1]
      rw [Bool.not_eq_true] at c1
      rw [← Bool.or_assoc, c1, Bool.false_or]
      by_cases c2 : nI k = nI p
      · have e : k = p := (nI_eq (by omega) (by omega)).mp c2
        subst e
        rw [if_pos rfl, decide_eq_false (by rw [hx_li]; omega), Bool.and_false]
        rfl
      · rw [if_neg c2, hx_has _ _ (by omega), hx_bI, hx_tn0]
        by_cases c3 : bt rc k = true
        · rw [if_pos c3, if_pos (hx_in (by omega) (by omega)), nI_clamp (by omega), hx_SR0 hs (by omega), hx_rS hE, hx_bI, if_pos (hx_in (by omega) (by omega)), nI_clamp (by omega), hx_SR0 hs (by omega), hx_rS hE, hx_bI, c3, Bool.true_and, hq_M_ever_144, hq_M_ever_148, nI_1]
          by_cases c4 : hx_sw E (s k) < hx_sw E (s p)
          · rw [if_pos c4, decide_eq_true c4]
            rfl
          · rw [if_neg c4, decide_eq_false c4]
            rfl
        · rw [if_neg c3]
          rw [Bool.not_eq_true] at c3
          rw [c3, Bool.false_and, hq_M_ever_148, nI_1]
          rfl
theorem hx_rsL (d : Nat) {μ : hs_M} {E : hx_Env} (hE : hx_ER μ E) {s : hx_St} (hs : hx_SR μ 46 0 s) (x1 x2 rc x4 x5 : Int32) : ∀ (m k : Nat), k + m = hx_P E → he_M_ever_69 (d + 2) x1 x2 rc x4 x5 (rc ||| hx_bits (fun p => bt (s 16) p && hx_cm E s rc p) k) (nI k) μ = he_M_ever_69 (d + 2) x1 x2 rc x4 x5 (hx_rs E s rc) (nI (hx_P E)) μ
  | 0, k, hk => by
    rw [show k = hx_P E from hk]
    rfl
  | m + 1, k, hk => by
    have h8 := hE.1.1
    have ih := hx_rsL d hE hs x1 x2 rc x4 x5 m (k + 1) (by omega)
    have l := hx_exL d rfl hE hs x1 x2 rc x4 x5 (rc ||| hx_bits (fun p => bt (s 16) p && hx_cm E s rc p) k) (p := k) (by omega) (hx_P E) 0 (by omega)
    rw [show hx_ex E s rc k 0 = false from rfl, Bool.or_false] at l
    rw [← ih, hq_M_ever_69, hx_rP hE, if_pos (nI_lt (by omega) (by omega)), show hc_M_has (d + 2) rc 8 μ = hc_M_has (d + 2) rc (nI 8) μ from rfl, hx_has _ _ (by omega), hx_bI, show he_M_ever_89 (d + 2) x1 x2 rc x4 x5 (rc ||| hx_bits (fun p => bt (s 16) p && hx_cm E s rc p) k) (nI k) (hx_tn (bt rc 8)) 0 μ = he_M_ever_89 (d + 2) x1 x2 rc x4 x5 (rc ||| hx_bits (fun p => bt (s 16) p && hx_cm E s rc p) k) (nI k) (hx_tn (bt rc 8)) (nI 0) μ from rfl, l, hq_M_ever_89, hx_rP hE, if_neg (nI_nlt (by omega) (by omega)), hx_has _ _ (by omega), hx_bI, hx_tn0, hx_tn0, hx_SR0 hs (by omega), nI_1, Int32.or_zero, hx_bitsS]
    by_cases c1 : bt (s 16) k = true
    · rw [if_pos c1, c1, Bool.true_and]
      by_cases c2 : hx_cm E s rc k = true
      · rw [if_pos c2, if_pos c2, Int32.or_assoc]
      · rw [if_neg c2, if_neg c2]
    · rw [if_neg c1]
      rw [Bool.not_eq_true] at c1
      rw [c1, Bool.false_and, if_neg (by decide)]
theorem hx_evR (d : Nat) {E : hx_Env} {W : Nat} {t : hx_St} (ht : hx_tw (hx_P E) W t) {n : Nat} (hn : W + n < 2 ^ 30) (r0 : Int32) : ∀ (m k : Nat) (μ : hs_M), k + m = n → hx_ER μ E → hx_SR μ 46 0 (hx_es E t k) → ∃ μ', he_M_ever_57 (d + 3) (nI n) 256 (hx_er E t r0 k) (hx_ea E t r0 k) (nI k) μ = some (some (vI (hx_ea E t r0 n)), μ') ∧ hx_fr hx_qY μ μ' ∧ hx_rwR μ' [(hx_el E t r0 n).toInt64]
  | 0, k, μ, hk, hE, hs => by
    have e : k = n := hk
    subst e
    have f0 : hx_fr hx_yR μ (hs_wI μ 12 0 1 0) := hx_wr (hx_rf _ _) _ (by unfold hx_yR; omega)
    obtain ⟨μ1, e1, f1, r1⟩ := hx_ent (d + 2) (hx_rwz μ) (by decide) (hx_el E t r0 k).toInt64
    rw [hq_M_ever_57, if_neg (nI_nlt (by omega) (by omega))]
    refine ⟨μ1, ?_, hx_yRq (hx_tr f0 f1), r1⟩
    unfold hx_el at e1
    by_cases c : k = 0
    · rw [if_pos c] at e1
      rw [if_pos (by rw [c]; rfl), show (0 : Int64) = (0 : Int32).toInt64 from by decide, e1, hx_bV]
    · rw [if_neg c] at e1
      rw [if_neg (nI_ne0 (by omega) (by omega)), show (256 : Int32) - 1 = 255 from by decide, e1, hx_bV]
  | m + 1, k, μ, hk, hE, hs => by
    have h8 := hE.1.1
    obtain ⟨μ1, e1, f1, s1, _⟩ := hx_goes d (κ := 46) (Or.inr (Or.inl rfl)) hE (by omega) (hx_estw h8 ht k (by omega)) hs 0
    rw [← hx_esS] at s1
    have f1' : hx_fr hx_yN μ μ1 := hx_mo (fun κ b i x => by unfold hx_xG at x; unfold hx_yN; omega) f1
    have q1 := hx_qRY (hx_yNq f1')
    obtain ⟨μ2, e2, f2, r2⟩ := hx_evR d ht hn r0 m (k + 1) μ1 (by omega) (hx_ERq q1 hE) s1
    refine ⟨μ2, ?_, hx_tr q1 f2, r2⟩
    have l := hx_rsL (d + 1) hE hs (nI n) 256 (hx_er E t r0 k) (hx_ea E t r0 k) (nI k) (hx_P E) 0 (by omega)
    rw [show hx_bits (fun p => bt (hx_es E t k 16) p && hx_cm E (hx_es E t k) (hx_er E t r0 k) p) 0 = 0 from rfl, Int32.or_zero] at l
    rw [hq_M_ever_57, if_pos (nI_lt (by omega) (by omega)), show he_M_ever_69 (d + 3) (nI n) 256 (hx_er E t r0 k) (hx_ea E t r0 k) (nI k) (hx_er E t r0 k) 0 μ = he_M_ever_69 (d + 3) (nI n) 256 (hx_er E t r0 k) (hx_ea E t r0 k) (nI k) (hx_er E t r0 k) (nI 0) μ from rfl, l, hq_M_ever_69, hx_rP hE, if_neg (nI_nlt (by omega) (by omega)), e1, hx_bV, nI_1, show (256 : Int32) - 1 = 255 from by decide, ← e2, hx_eaS, hx_erS]
theorem hx_ever (d : Nat) {n : Nat} (hn : n ≤ 512) {E : hx_Env} {t : hx_St} {μ : hs_M} (h : hx_I n E t μ) (x : Int32) : hx_A n μ (hc_H_ever (d + 6) x) (hc_M_ever (d + 6) x) := by
  have h8 := h.1.1.1
  have ec : ∀ A B : Option (Option hs_V × hs_M), (if x < 0 then A else if 12 < x then A else B) = if hx_rg 0 12 x = true then B else A := fun A B => hx_if2 x 0 12 A B
  by_cases c : hx_rg 0 12 x = true
  · obtain ⟨k, hk, ex⟩ := hx_rgN (n := 12) c
    obtain ⟨μ1, e1, f1, s1⟩ := hx_follow (d + 3) (j := 35) h.2.2.1.1 (by omega)
    have f1' : hx_fr (hx_xS 35) μ μ1 := hx_mo (fun κ b i x => by unfold hx_xS; omega) f1
    have q1 := hx_qCX (hx_xSq (by omega) f1')
    obtain ⟨μ2, e2, f2, r2⟩ := hx_evC d (E := E) h.2.2.2.2.1 (n := k) (by omega) (if t 17 < 0 then 256 else (1 : Int32) <<< (t 17 &&& 31)) k 0 μ1 (by omega) (hx_ECq q1 h.1) s1
    have q2 := hx_tr q1 f2
    have hI := hx_I0 (hx_Ir h q2)
    obtain ⟨μ3, e3, f3, s3, _⟩ := hx_starts (d + 3) hI.2.2.2.1
    have q3 := hx_qRY (hx_yNq f3)
    obtain ⟨μ4, e4, f4, r4⟩ := hx_evR (d + 2) (E := E) h.2.2.2.2.1 (n := k) (by omega) (if t 17 < 0 then 256 else (1 : Int32) <<< (t 17 &&& 31)) k 0 μ3 (by omega) (hx_ERq q3 hI.2.1) s3
    refine ⟨hx_ea E t (if t 17 < 0 then 256 else (1 : Int32) <<< (t 17 &&& 31)) k, μ2, μ4, ?_, ?_, E, t, hx_Iq1 h q2 r2 (hx_tr (hx_tr (hx_wr (hx_rf _ _) _ (by unfold hx_qY hx_qR; omega)) q3) f4) r4⟩
    · rw [hq_H_ever, hq_H_ever_10, ec, if_pos c, ex, hq_Future_reachable, h.2.2.1.1.2.2.2.1, e1, hx_bV, hx_bV]
      rw [show he_Future_reachable_45 (d + 4) (nI k) (hx_ea E t (if t 17 < 0 then 256 else (1 : Int32) <<< (t 17 &&& 31)) 0) (hx_el E t (if t 17 < 0 then 256 else (1 : Int32) <<< (t 17 &&& 31)) 0) (hx_er E t (if t 17 < 0 then 256 else (1 : Int32) <<< (t 17 &&& 31)) 0) (nI 0) μ1 = he_Future_reachable_45 (d + 4) (nI k) 0 0 (if t 17 < 0 then 256 else (1 : Int32) <<< (t 17 &&& 31)) 0 μ1 from rfl] at e2
      by_cases c2 : t 17 < 0
      · rw [if_pos c2] at e2 ⊢
        rw [e2, hx_bI, if_pos c2]
      · rw [if_neg c2] at e2 ⊢
        rw [e2, hx_bI, if_neg c2]
    · rw [hq_M_ever, hx_inR, hx_bI, hx_tn0, show hx_rg (Int64.toInt 0) (Int64.toInt 12) x = hx_rg 0 12 x from rfl, if_pos c, ex, e3, hx_bV, hx_SR0 (hx_SRq q3 hI.2.2.2.1) (by omega)]
      rw [show he_M_ever_57 (d + 5) (nI k) 256 (hx_er E t (if t 17 < 0 then 256 else (1 : Int32) <<< (t 17 &&& 31)) 0) (hx_ea E t (if t 17 < 0 then 256 else (1 : Int32) <<< (t 17 &&& 31)) 0) (nI 0) μ3 = he_M_ever_57 (d + 5) (nI k) 256 (if t 17 < 0 then 256 else (1 : Int32) <<< (t 17 &&& 31)) 0 0 μ3 from rfl] at e4
      by_cases c2 : t 17 < 0
      · rw [if_pos c2] at e4 ⊢
        rw [e4, if_pos c2]
      · rw [if_neg c2] at e4 ⊢
        rw [e4, if_neg c2]
  · apply hx_Anone h (v := -1)
    · rw [hq_H_ever, hq_H_ever_10, ec, if_neg c]
    · rw [hq_M_ever, hx_inR, hx_bI, hx_tn0, show hx_rg (Int64.toInt 0) (Int64.toInt 12) x = hx_rg 0 12 x from rfl, if_neg c]
