/-! ===== E: cakes: hold, bribe, starve ===== -/
def hx_fd (t : hx_St) (p : Nat) (v : Int32) : hx_St := fun i => if i = p then hx_ic (t p + v) else t i
theorem hx_fdO (t : hx_St) {p i : Nat} (v : Int32) (h : i ≠ p) : hx_fd t p v i = t i := if_neg h
theorem hx_fdtw {P W : Nat} (h8 : P ≤ 8) {t : hx_St} (ht : hx_tw P W t) {p : Nat} (hp : p < P) (v : Int32) : hx_tw P W (hx_fd t p v) := by
  obtain ⟨h1, h2, ⟨L, hL, e20, hl⟩, h4⟩ := ht
  refine ⟨?_, ?_, ⟨L, hL, ?_, ?_⟩, ?_⟩
  · rw [hx_fdO _ _ (by omega)]
    exact h1
  · rw [hx_fdO _ _ (by omega)]
    exact h2
  · rw [hx_fdO _ _ (by omega)]
    exact e20
  · intro k hk
    rw [hx_fdO _ _ (by omega), hx_fdO _ _ (by omega), hx_fdO _ _ (by omega)]
    exact hl k hk
  · intro q hq
    by_cases c : q = p
    · unfold hx_fd
      rw [if_pos c]
      exact hx_icR _
    · rw [hx_fdO _ _ c]
      exact h4 q hq
theorem hx_fdh (t : hx_St) {p : Nat} (hp : p < 8) (v : Int32) : hx_hold (hx_fd t p v) = hx_hold t ∧ hx_holds (hx_fd t p v) = hx_holds t := by
  unfold hx_hold hx_holds
  rw [hx_fdO _ _ (by omega)]
  exact ⟨hx_hcc _ (fun k _ => hx_fdO _ _ (by omega)), hx_hbc _ (fun k _ => hx_fdO _ _ (by omega))⟩
theorem hx_putW (d : Nat) {μ : hs_M} {j : Nat} {t : hx_St} (hs : hx_SC μ j t) {p : Nat} (hp : p < 8) (v : Int32) : ∃ μ', hc_State_putWeight (d + 2) j (nI p) (t p + v) μ = some (none, μ') ∧ hx_fr (fun κ b i => κ = 24 ∧ b = j ∧ i = p) μ μ' ∧ hx_SC μ' j (hx_fd t p v) ∧ (hx_SF μ j t → hx_SF μ' j (hx_fd t p v)) := by
  rw [hq_State_putWeight, if_neg (nI_pos (by omega)), if_pos (show nI p < (8 : Int32) from nI_lt (b := 8) (by omega) (by omega)), hx_inB, hx_bI, if_pos (hx_in (by omega) (by omega)), nI_clamp (by omega), hq_State_putWeight_20]
  obtain ⟨h1, h2, h3, h4, h5, h6, h7, h8⟩ := hs
  have fh := hx_fdh t hp v
  have hS : hx_SC (hs_wI μ 24 j p (hx_ic (t p + v))) j (hx_fd t p v) := by
    refine ⟨?_, ?_, ?_, ?_, ?_, ?_, ?_, ?_⟩
    · intro i hi
      rw [hx_rd]
      by_cases c : i = p
      · rw [if_pos ⟨rfl, c, rfl⟩]
        unfold hx_fd
        rw [if_pos c]
      · rw [if_neg (by omega), hx_fdO _ _ c, h1 i hi]
    · intro i hi
      rw [hx_rd, if_neg (by omega), hx_fdO _ _ (by omega), h2 i hi]
    · rw [hx_rd, if_neg (by omega), hx_fdO _ _ (by omega), h3]
    · rw [hx_rd, if_neg (by omega), hx_fdO _ _ (by omega), h4]
    · rw [hx_rd, if_neg (by omega), hx_fdO _ _ (by omega), hx_fdO _ _ (by omega), h5]
    · rw [hx_rd, if_neg (by omega), hx_fdO _ _ (by omega), h6]
    · rw [hx_rd, if_neg (by omega), fh.2, h7]
    · rw [hx_rd, if_neg (by omega), fh.1, h8]
  refine ⟨_, rfl, hx_wr (hx_rf _ _) _ ⟨rfl, rfl, rfl⟩, hS, ?_⟩
  rintro ⟨_, k6, k26, k27, k28, k29⟩
  refine ⟨hS, ?_, ?_, ?_, ?_, ?_⟩
  · rw [hx_rd, if_neg (by omega), hx_fdO _ _ (by omega), k6]
  · intro i hi
    rw [hx_rd, if_neg (by omega), hx_fdO _ _ (by omega), k26 i hi]
  · intro i hi
    rw [hx_rd, if_neg (by omega), hx_fdO _ _ (by omega), k27 i hi]
  · intro i hi
    rw [hx_rd, if_neg (by omega), hx_fdO _ _ (by omega), k28 i hi]
  · intro i hi
    rw [hx_rd, if_neg (by omega), hx_fdO _ _ (by omega), k29 i hi]
theorem hx_feast (d : Nat) {μ : hs_M} {t : hx_St} (h0 : hx_SC μ 0 t) {p : Nat} (hp : p < 8) (v : Int32) : ∃ μ', hc_Trials_feast (d + 3) (nI p) v μ = some (none, μ') ∧ hx_fr (hx_xS 36) μ μ' ∧ hx_SC μ' 36 (hx_fd t p v) := by
  obtain ⟨μ1, e1, f1, s1⟩ := hx_follow (d + 1) (j := 36) h0 (by omega)
  obtain ⟨μ2, e2, f2, s2, _⟩ := hx_putW d s1 hp v
  have f1' : hx_fr (hx_xS 36) μ μ1 := hx_mo (fun κ b i x => by unfold hx_xS; omega) f1
  have f2' : hx_fr (hx_xS 36) μ1 μ2 := hx_mo (fun κ b i x => by unfold hx_xS; omega) f2
  rw [hq_Trials_feast, e1, hx_bV, if_pos (hx_in hp (by omega)), nI_clamp (by omega), f1.1 24 0 p (by omega), h0.1 p hp, e2, hx_bV]
  exact ⟨μ2, rfl, hx_tr f1' f2', s2⟩
theorem hx_stWith (d : Nat) {μ : hs_M} {t : hx_St} (hs : hx_SR μ 45 0 t) {p : Nat} (hp : p < 8) (v : Int32) : ∃ μ', hc_M_startsWith (d + 3) (nI p) v μ = some (none, μ') ∧ hx_fr hx_yN μ μ' ∧ hx_SR μ' 46 0 (hx_fd t p v) ∧ hx_sf μ' t (hx_fd t p v) := by
  obtain ⟨μ1, e1, f1, s1, g1⟩ := hx_starts d hs
  rw [hq_M_startsWith, e1, hx_bV, if_pos (hx_in (by omega) (by omega)), nI_clamp (by omega), hx_SR0 s1 (by omega), hx_min, hx_bI, hx_max, hx_bI, hx_mm, if_pos (hx_in (by omega) (by omega))]
  refine ⟨_, rfl, hx_wr f1 _ (by unfold hx_yN; omega), ?_, ?_⟩
  · apply hx_SRw s1
    · exact if_pos rfl
    · intro i _ z
      exact if_neg z
  · intro i hi
    rw [hx_rd, if_neg (by omega), g1 i hi, hx_fdO _ _ (by omega), Int32.sub_self]
/-- how often p serves -/
noncomputable def hx_cn (E : hx_Env) (a : Int32) (s : hx_St) (p : Nat) : Nat → Nat
  | 0 => 0
  | k + 1 => hx_cn E a s p k + (if hx_by E a s (k + 1) 17 = nI p then 1 else 0)
theorem hx_cnS (E : hx_Env) (a : Int32) (s : hx_St) (p k : Nat) : hx_cn E a s p (k + 1) = hx_cn E a s p k + (if hx_by E a s (k + 1) 17 = nI p then 1 else 0) := rfl
theorem hx_cnle (E : hx_Env) (a : Int32) (s : hx_St) (p : Nat) : ∀ k m, hx_cn E a s p k ≤ hx_cn E a s p (k + m) ∧ hx_cn E a s p (k + m) ≤ hx_cn E a s p k + m
  | k, 0 => ⟨Nat.le_refl _, Nat.le_refl _⟩
  | k, m + 1 => by
    have := hx_cnle E a s p k m
    rw [show k + (m + 1) = k + m + 1 from rfl, hx_cnS]
    split <;> omega
theorem hx_ctot {E : hx_Env} (h8 : hx_P E ≤ 8) (a : Int32) {s : hx_St} {W : Nat} (ht : hx_tw (hx_P E) W s) {p : Nat} (hp : p < 8) : ∀ n, W + n < 2 ^ 30 → hx_by E a s n (8 + p) - s (8 + p) = nI (hx_cn E a s p n)
  | 0, _ => Int32.sub_self _
  | n + 1, h => by
    have ih := hx_ctot h8 a ht hp n (by omega)
    have e := hx_s8 h8 (hx_bytw h8 a ht n (by omega)) (hx_sa E (hx_by E a s n) 0 a) hp
    rw [← hx_byS] at e
    rw [e, hx_cnS]
    split
    · rw [Int32.sub_eq_add_neg, Int32.add_assoc, Int32.add_comm 1, ← Int32.add_assoc, ← Int32.sub_eq_add_neg, ih, nI_1]
    · rw [ih, Nat.add_zero]
/-- the first for which -/
def hx_f1 (ok : Nat → Bool) : Nat → Nat → Option Nat
  | 0, _ => none
  | m + 1, k => if ok k = true then some k else hx_f1 ok m (k + 1)
theorem hx_f1S (ok : Nat → Bool) (m k : Nat) : hx_f1 ok (m + 1) k = if ok k = true then some k else hx_f1 ok m (k + 1) := rfl
def hx_ov : Option Nat → Int32
  | none => -2
  | some k => nI k
theorem hx_f1x {ok : Nat → Bool} : ∀ (m k m' : Nat), (∀ j, k + m ≤ j → j < k + m + m' → ok j = true → ∃ i, k ≤ i ∧ i < k + m ∧ ok i = true) → hx_f1 ok (m + m') k = hx_f1 ok m k
  | 0, k, m', h => by
    rw [Nat.zero_add]
    show hx_f1 ok m' k = none
    have : ∀ j, k ≤ j → j < k + m' → ok j = false := by
      intro j h1 h2
      cases e : ok j
      · rfl
      · obtain ⟨i, h3, h4, _⟩ := h j (by omega) (by omega) e
        omega
    clear h
    induction m' generalizing k with
    | zero => rfl
    | succ m' ih =>
      rw [hx_f1S, this k (by omega) (by omega), if_neg (by decide)]
      exact ih (k + 1) (fun j h1 h2 => this j (by omega) (by omega))
  | m + 1, k, m', h => by
    rw [show m + 1 + m' = (m + m') + 1 by omega, hx_f1S, hx_f1S]
    by_cases c : ok k = true
    · rw [if_pos c, if_pos c]
    · rw [if_neg c, if_neg c]
      apply hx_f1x m (k + 1) m'
      intro j h1 h2 h3
      obtain ⟨i, a1, a2, a3⟩ := h j (by omega) (by omega) h3
      refine ⟨i, ?_, by omega, a3⟩
      rcases Nat.lt_or_ge k i with z | z
      · exact z
      · have : i = k := by omega
        rw [this] at a3
        exact absurd a3 c
theorem hx_f1r {ok : Nat → Bool} : ∀ (m k : Nat) {j : Nat}, hx_f1 ok m k = some j → k ≤ j ∧ j < k + m ∧ ok j = true
  | 0, k, j, h => by cases h
  | m + 1, k, j, h => by
    rw [hx_f1S] at h
    by_cases c : ok k = true
    · rw [if_pos c] at h
      have := Option.some.inj h
      subst this
      exact ⟨Nat.le_refl _, by omega, c⟩
    · rw [if_neg c] at h
      obtain ⟨a, b, e⟩ := hx_f1r m (k + 1) h
      exact ⟨by omega, by omega, e⟩
/-- what is eaten beyond 999 does nothing -/
theorem hx_icx {w a b : Nat} (hw : 1 ≤ w) (hw9 : w ≤ 999) (ha : a ≤ 2000) (hb : b ≤ 2000) (h1 : 999 ≤ w + a) (h2 : 999 ≤ w + b) : hx_ic (nI w + nI a) = hx_ic (nI w + nI b) := by
  have f : ∀ a, a ≤ 2000 → 999 ≤ w + a → hx_ic (nI w + nI a) = nI 999 := by
    intro a ha h
    rw [nI_add]
    unfold hx_ic
    rw [if_neg (show ¬ nI (w + a) < (1 : Int32) from nI_nlt (b := 1) (by omega) (by omega))]
    by_cases c : 999 < w + a
    · rw [if_pos (show (999 : Int32) < nI (w + a) from nI_lt (a := 999) c (by omega))]
      rfl
    · rw [if_neg (show ¬ (999 : Int32) < nI (w + a) from nI_nlt (a := 999) (by omega) (by omega)), show w + a = 999 by omega]
  rw [f a ha h1, f b hb h2]
theorem hx_icn {w a b : Nat} (hw9 : w ≤ 999) (ha : a ≤ 2000) (hb : b ≤ 2000) (h1 : w ≤ a + 1) (h2 : w ≤ b + 1) : hx_ic (nI w + -nI a) = hx_ic (nI w + -nI b) := by
  have f : ∀ a, a ≤ 2000 → w ≤ a + 1 → hx_ic (nI w + -nI a) = nI 1 := by
    intro a ha h
    have e : (nI w + -nI a).toInt = (w : Int) - a := by
      rw [← Int32.sub_eq_add_neg]
      exact pk_sub_toInt (by omega) (by omega)
    have e1 : (1 : Int32).toInt = 1 := by decide
    have e9 : (999 : Int32).toInt = 999 := by decide
    unfold hx_ic
    by_cases c : nI w + -nI a < 1
    · rw [if_pos c]
      rfl
    · rw [if_neg c]
      rw [hx_li, e, e1] at c
      rw [if_neg (by rw [hx_li, e, e9]; omega)]
      rw [hx_ei, e, nI_toInt (by omega)]
      omega
  rw [f a ha h1, f b hb h2]
theorem hx_worth (d : Nat) {μ : hs_M} {t : hx_St} (h0 : hx_SC μ 0 t) {p w : Nat} (hp : p < 8) (hw : 1 ≤ w) (hw9 : w ≤ 999) (e : t p = nI w) : hc_Trials_cakesWorthTrying (d + 2) (nI p) μ = some (some (vI (nI (999 - w))), μ) := by
  rw [hq_Trials_cakesWorthTrying, if_pos (hx_in hp (by omega)), nI_clamp (by omega), h0.1 p hp, e, hx_min, hx_bI, show (999 : Int32) = nI 999 from rfl, pk_sub hw9]
  unfold hx_mn
  rw [if_pos (nI_lt (by omega) (by omega))]
/-! hold -/
noncomputable def hx_hok (E : hx_Env) (t : hx_St) (p n k : Nat) : Bool := decide (hx_cn E 255 (hx_fd t p (nI k)) p n = n)
theorem hx_hoi (d : Nat) {E : hx_Env} {W : Nat} {s : hx_St} (ht : hx_tw (hx_P E) W s) {n : Nat} (hn : W + n < 2 ^ 30) (h60 : n ≤ 60) {p : Nat} (hp : p < 8) (x3 x4 : Int32) : ∀ (m k : Nat) (μ : hs_M), k + m = n → hx_EC μ E → hx_SC μ 36 (hx_by E 255 s k) → (hx_by E 255 s k 17 = nI p → hx_cn E 255 s p k = k) → (hx_by E 255 s k 17 ≠ nI p → hx_cn E 255 s p n < n) → ∃ μ', he_Trials_cakesToStay_25 (d + 4) (nI p) (nI n) x3 x4 (nI k) μ = (if hx_cn E 255 s p n = n then some (some (vI x4), μ') else he_Trials_cakesToStay_9 (d + 4) (nI p) (nI n) x3 (x4 + 1) μ') ∧ hx_fr (hx_xS 36) μ μ'
  | 0, k, μ, hk, hE, hs, h1, h2 => by
    have e : k = n := hk
    subst e
    rw [hq_Trials_cakesToStay_25, if_neg (nI_nlt (by omega) (by omega)), hq_Trials_cakesToStay_63, hs.2.2.2.1]
    refine ⟨μ, ?_, hx_rf _ _⟩
    by_cases c : hx_by E 255 s k 17 = nI p
    · rw [if_pos c, if_pos (h1 c)]
    · have := h2 c
      rw [if_neg c, if_neg (by omega)]
  | m + 1, k, μ, hk, hE, hs, h1, h2 => by
    have h8 := hE.1.1
    rw [hq_Trials_cakesToStay_25, if_pos (nI_lt (by omega) (by omega)), hs.2.2.2.1]
    by_cases c : hx_by E 255 s k 17 = nI p
    · obtain ⟨μ1, e1, f1, s1, _⟩ := hx_pass d hE (by omega) (hx_bytw h8 255 ht k (by omega)) hs 0 255
      rw [← hx_byS] at s1
      have ck := h1 c
      obtain ⟨μ2, e2, f2⟩ := hx_hoi d ht hn h60 hp x3 x4 m (k + 1) μ1 (by omega) (hx_ECS f1 hE) s1 (by
        intro z
        rw [hx_cnS, if_pos z, ck]) (by
        intro z
        have := (hx_cnle E 255 s p (k + 1) m).2
        rw [show k + 1 + m = n by omega, hx_cnS, if_neg z, ck] at this
        omega)
      refine ⟨μ2, ?_, hx_tr f1 f2⟩
      rw [if_pos c, e1, hx_bV, nI_1, e2]
    · rw [if_neg c, hq_Trials_cakesToStay_63, hs.2.2.2.1, if_neg c]
      have := h2 c
      refine ⟨μ, ?_, hx_rf _ _⟩
      rw [if_neg (by omega)]
theorem hx_hoC (d : Nat) {E : hx_Env} {W : Nat} {t : hx_St} (ht : hx_tw (hx_P E) W t) {n : Nat} (hn : W + n < 2 ^ 30) (h60 : n ≤ 60) {p : Nat} (hp : p < hx_P E) (hwho : t 17 = nI p) {l : Nat} (hl : l ≤ 999) : ∀ (m k : Nat) (μ : hs_M), k + m = l + 1 → hx_EC μ E → hx_SC μ 0 t → ∃ μ', he_Trials_cakesToStay_9 (d + 4) (nI p) (nI n) (nI l) (nI k) μ = some (some (vI (hx_ov (hx_f1 (hx_hok E t p n) m k))), μ') ∧ hx_fr (hx_xS 36) μ μ'
  | 0, k, μ, hk, hE, h0 => by
    rw [hq_Trials_cakesToStay_9, if_pos (nI_lt (by omega) (by omega))]
    exact ⟨μ, rfl, hx_rf _ _⟩
  | m + 1, k, μ, hk, hE, h0 => by
    have h8 := hE.1.1
    obtain ⟨μ1, e1, f1, s1⟩ := hx_feast (d + 1) h0 (p := p) (by omega) (nI k)
    obtain ⟨μ2, e2, f2⟩ := hx_hoi d (hx_fdtw h8 ht hp (nI k)) hn h60 (p := p) (by omega) (nI l) (nI k) n 0 μ1 (by omega) (hx_ECS f1 hE) s1 (fun _ => rfl) (fun z => absurd ((hx_fdO t (nI k) (by omega)).trans hwho) z)
    have f12 := hx_tr f1 f2
    have q := hx_qCX (hx_xSq (j := 36) (by omega) f12)
    obtain ⟨μ3, e3, f3⟩ := hx_hoC d ht hn h60 hp hwho hl m (k + 1) μ2 (by omega) (hx_ECS f12 hE) (hx_SCq q (by omega) h0)
    rw [hq_Trials_cakesToStay_9, if_neg (nI_nlt (by omega) (by omega)), e1, hx_bV, show he_Trials_cakesToStay_25 (d + 4) (nI p) (nI n) (nI l) (nI k) 0 μ1 = he_Trials_cakesToStay_25 (d + 4) (nI p) (nI n) (nI l) (nI k) (nI 0) μ1 from rfl, e2, nI_1, hx_f1S]
    by_cases c : hx_cn E 255 (hx_fd t p (nI k)) p n = n
    · rw [if_pos c, if_pos (show hx_hok E t p n k = true from decide_eq_true c)]
      exact ⟨μ2, rfl, f12⟩
    · rw [if_neg c, if_neg (by unfold hx_hok; rw [decide_eq_false c]; decide), e3]
      exact ⟨μ3, rfl, hx_tr f12 f3⟩
theorem hx_hoR (d : Nat) {E : hx_Env} {W : Nat} {t : hx_St} (ht : hx_tw (hx_P E) W t) {n : Nat} (hn : W + n < 2 ^ 30) (h60 : n ≤ 60) {p : Nat} (hp : p < hx_P E) : ∀ (m k : Nat) (μ : hs_M), k + m = 1000 → hx_ER μ E → hx_SR μ 45 0 t → ∃ μ', he_M_hold_31 (d + 6) (nI n) (nI p) (nI k) μ = some (some (vI (hx_ov (hx_f1 (hx_hok E t p n) m k))), μ') ∧ hx_fr hx_yN μ μ'
  | 0, k, μ, hk, hE, hs => by
    rw [hq_M_hold_31, if_pos (show (999 : Int32) < nI k from nI_lt (a := 999) (by omega) (by omega))]
    exact ⟨μ, rfl, hx_rf _ _⟩
  | m + 1, k, μ, hk, hE, hs => by
    have h8 := hE.1.1
    obtain ⟨μ1, e1, f1, s1, g1⟩ := hx_stWith (d + 3) hs (p := p) (by omega) (nI k)
    obtain ⟨μ2, e2, f2, s2, g2⟩ := hx_goBy d (hx_ERN f1 hE) (hx_nv0 h8) (hx_fdtw h8 ht hp (nI k)) s1 g1 hn
    have f12 := hx_tr f1 f2
    have q := hx_qRY (hx_yNq f12)
    obtain ⟨μ3, e3, f3⟩ := hx_hoR d ht hn h60 hp m (k + 1) μ2 (by omega) (hx_ERN f12 hE) (hx_SRq q hs)
    have cle := (hx_cnle E 255 (hx_fd t p (nI k)) p 0 n).2
    rw [Nat.zero_add, show hx_cn E 255 (hx_fd t p (nI k)) p 0 = 0 from rfl] at cle
    have ev : μ2.1 57 0 p = nI (hx_cn E 255 (hx_fd t p (nI k)) p n) := by
      rw [g2 p (by omega), ← hx_ctot h8 255 (hx_fdtw h8 ht hp (nI k)) (p := p) (by omega) n hn, hx_fdO _ _ (by omega)]
    rw [hq_M_hold_31, if_neg (show ¬ (999 : Int32) < nI k from nI_nlt (a := 999) (by omega) (by omega)), e1, hx_bV, e2, hx_bV, if_pos (hx_in (by omega) (by omega)), nI_clamp (by omega), ev, nI_1, hx_f1S]
    by_cases c : hx_cn E 255 (hx_fd t p (nI k)) p n = n
    · rw [if_pos (by rw [c]), if_pos (show hx_hok E t p n k = true from decide_eq_true c)]
      exact ⟨μ2, rfl, f12⟩
    · rw [if_neg (by rw [nI_eq (by omega) (by omega)]; exact c), if_neg (by unfold hx_hok; rw [decide_eq_false c]; decide), e3]
      exact ⟨μ3, rfl, hx_tr f12 f3⟩
theorem hx_sixty (d : Nat) (x : Int32) (μ : hs_M) : hc_M_areSixty (d + 2) x μ = some (some (vI (hx_tn (hx_rg 0 60 x))), μ) := by
  rw [hq_M_areSixty, hx_inR, hx_bI, hx_tnz]
  rfl
theorem hx_i60 {ρ : Type} (x : Int32) (A B : ρ) : (if x < 0 then A else if 60 < x then A else B) = if hx_rg 0 60 x = true then B else A := hx_if2 x 0 60 A B
theorem hx_fdx {t : hx_St} {p w a b : Nat} (e : t p = nI w) (hw : 1 ≤ w) (hw9 : w ≤ 999) (ha : a ≤ 2000) (hb : b ≤ 2000) (h1 : 999 ≤ w + a) (h2 : 999 ≤ w + b) : hx_fd t p (nI a) = hx_fd t p (nI b) := by
  unfold hx_fd
  rw [e, hx_icx hw hw9 ha hb h1 h2]
theorem hx_hold' (d : Nat) {n : Nat} (hn : n ≤ 512) {E : hx_Env} {t : hx_St} {μ : hs_M} (h : hx_I n E t μ) (x : Int32) : hx_A n μ (hc_H_hold (d + 7) x) (hc_M_hold (d + 7) x) := by
  have h8 := h.1.1.1
  have h0 := hx_I0 (hx_Ia h)
  by_cases c : hx_rg 0 60 x = true
  · obtain ⟨k, hk, ex⟩ := hx_rgN (n := 60) c
    rcases hx_who h.2.2.2.2.1 h8 with ⟨w, e17⟩ | ⟨w, p, hp, e17⟩
    · apply hx_Anone h (v := -3)
      · rw [hq_H_hold, hq_H_hold_10, hx_i60, if_pos c, h.2.2.1.1.2.2.2.1, if_pos e17]
      · rw [hq_M_hold, hx_sixty, hx_bI, hx_tn0, if_pos c, hx_SR0 h0.2.2.2.1 (by omega), if_pos w]
    · obtain ⟨wt, hw1, hw9, ew⟩ := h.2.2.2.2.1.2.2.2 p hp
      obtain ⟨μ1, e1, f1⟩ := hx_hoC (d + 1) h.2.2.2.2.1 (n := k) (by omega) hk hp e17 (l := 999 - wt) (by omega) (999 - wt + 1) 0 μ (by omega) h.1 h.2.2.1.1
      have q1 := hx_xSq (j := 36) (by omega) f1
      have hI := hx_I0 (hx_Ir h (hx_qCX q1))
      obtain ⟨μ2, e2, f2⟩ := hx_hoR d h.2.2.2.2.1 (n := k) (by omega) hk hp 1000 0 _ (by omega) hI.2.1 hI.2.2.2.1
      have same : hx_f1 (hx_hok E t p k) (999 - wt + 1) 0 = hx_f1 (hx_hok E t p k) 1000 0 := by
        have := hx_f1x (ok := hx_hok E t p k) (999 - wt + 1) 0 wt (by
          intro j h1 h2 h3
          refine ⟨999 - wt, by omega, by omega, ?_⟩
          unfold hx_hok at h3 ⊢
          rw [hx_fdx (b := j) ew hw1 hw9 (by omega) (by omega) (by omega) (by omega)]
          exact h3)
        rw [show 999 - wt + 1 + wt = 1000 by omega] at this
        exact this.symm
      refine ⟨hx_ov (hx_f1 (hx_hok E t p k) 1000 0), μ1, μ2, ?_, ?_, E, t, hx_Iq0 h q1 (hx_tr (hx_wr (hx_rf _ _) _ (by unfold hx_qR; omega)) (hx_yNq f2))⟩
      · rw [hq_H_hold, hq_H_hold_10, hx_i60, if_pos c, h.2.2.1.1.2.2.2.1, if_neg (by intro z; rw [z] at w; exact w hx_m1), e17, ex, hq_Trials_cakesToStay, hx_worth _ h.2.2.1.1 (by omega) hw1 hw9 ew, hx_bI, show he_Trials_cakesToStay_9 (d + 5) (nI p) (nI k) (nI (999 - wt)) 0 μ = he_Trials_cakesToStay_9 (d + 5) (nI p) (nI k) (nI (999 - wt)) (nI 0) μ from rfl, e1, hx_bI, same]
      · rw [hq_M_hold, hx_sixty, hx_bI, hx_tn0, if_pos c, hx_SR0 hI.2.2.2.1 (by omega), if_neg w, e17, ex]
        exact e2
  · apply hx_Anone h (v := -1)
    · rw [hq_H_hold, hq_H_hold_10, hx_i60, if_neg c]
    · rw [hq_M_hold, hx_sixty, hx_bI, hx_tn0, if_neg c]
