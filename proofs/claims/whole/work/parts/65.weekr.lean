/-! ===== E: a week in the reference ===== -/
def hx_xG (κ' κ b i : Nat) : Prop := b = 0 ∧ (κ = κ' ∨ (κ = 12 ∧ i = 27))
theorem hx_SR0 {μ : hs_M} {κ : Nat} {t : hx_St} (h : hx_SR μ κ 0 t) {i : Nat} (hi : i < 117) : μ.1 κ 0 i = t i := by
  have := h i hi
  rw [Nat.zero_add] at this
  exact this
theorem hx_SRi {μ : hs_M} {κ : Nat} {t : hx_St} (h : ∀ i, i < 117 → μ.1 κ 0 i = t i) : hx_SR μ κ 0 t := by
  intro i hi
  rw [Nat.zero_add]
  exact h i hi
theorem hx_SRw {μ : hs_M} {κ k : Nat} {v : Int32} {t t' : hx_St} (h : hx_SR μ κ 0 t) (hk : t' k = v) (ho : ∀ i, i < 117 → i ≠ k → t' i = t i) : hx_SR (hs_wI μ κ 0 k v) κ 0 t' := by
  apply hx_SRi
  intro i hi
  rw [hx_rd]
  by_cases c : i = k
  · rw [if_pos ⟨rfl, c, rfl⟩, c, hk]
  · rw [if_neg (by omega), hx_SR0 h hi, ho i hi c]
theorem hx_ERG {κ : Nat} (hκ : hx_K3 κ) {μ μ' : hs_M} (f : hx_fr (hx_xG κ) μ μ') {E : hx_Env} (h : hx_ER μ E) : hx_ER μ' E := hx_ERf f (by intro κ i h x; unfold hx_rF at h; unfold hx_xG at x; unfold hx_K3 at hκ; omega) h
theorem hx_ERV {μ μ' : hs_M} (f : hx_fr hx_xV μ μ') {E : hx_Env} (h : hx_ER μ E) : hx_ER μ' E := hx_ERf f (by intro κ i h x; unfold hx_rF at h; unfold hx_xV at x; omega) h
theorem hx_SRV {μ μ' : hs_M} (f : hx_fr hx_xV μ μ') {κ b : Nat} (hκ : κ ≠ 54) {t : hx_St} (h : hx_SR μ κ b t) : hx_SR μ' κ b t := hx_SRf f (by intro i h x; exact hκ x) h
/-- the first k laws fallen -/
def hx_flk (t : hx_St) (k : Nat) : hx_St := fun i => if 45 ≤ i ∧ i < 45 + k ∧ t i < 0 then t 19 else t i
theorem hx_flO (t : hx_St) (k : Nat) {i : Nat} (h : i < 45) : hx_flk t k i = t i := by
  unfold hx_flk
  rw [if_neg (by omega)]
theorem hx_fallL (d : Nat) {κ : Nat} (hκ : hx_K3 κ) {P W : Nat} {t : hx_St} (ht : hx_tw P W t) {L : Nat} (hL : L ≤ 12) (e20 : t 20 = nI L) {μ0 : hs_M} : ∀ (m k : Nat) (μ : hs_M), k + m = L → hx_fr (fun κ' b _ => b = 0 ∧ κ' = κ) μ0 μ → hx_SR μ κ 0 (hx_flk t k) → ∃ μ', he_M_falls_4 d κ (nI (hx_hc t k)) (nI k) μ = some (some (vI (nI (hx_hc t L))), μ') ∧ hx_fr (fun κ' b _ => b = 0 ∧ κ' = κ) μ0 μ' ∧ hx_SR μ' κ 0 (hx_flk t L)
  | 0, k, μ, hk, f, hs => by
    rw [hq_M_falls_4 _ _ _ _ _ hκ, hx_SR0 hs (by omega), hx_flO _ _ (by omega), e20, if_neg (nI_nlt (by omega) (by omega))]
    have e : k = L := hk
    subst e
    exact ⟨μ, rfl, f, hs⟩
  | m + 1, k, μ, hk, f, hs => by
    have ih := hx_fallL d hκ ht hL e20 (μ0 := μ0) m (k + 1)
    obtain ⟨L', hL', e20', hl⟩ := ht.2.2.1
    have eL : L' = L := by
      rw [e20'] at e20
      exact (nI_eq (by omega) (by omega)).mp e20
    subst eL
    have hk' := hl k (by omega)
    have ekk : hx_flk t k (45 + k) = t (45 + k) := by
      unfold hx_flk
      rw [if_neg (by omega)]
    have skip : ¬ t (45 + k) < 0 → ∃ μ', he_M_falls_54 d κ (nI (hx_hc t k)) (nI k) μ = some (some (vI (nI (hx_hc t L'))), μ') ∧ hx_fr (fun κ' b _ => b = 0 ∧ κ' = κ) μ0 μ' ∧ hx_SR μ' κ 0 (hx_flk t L') := by
      intro c
      rw [hq_M_falls_54 _ _ _ _ _ hκ, nI_1]
      have e1 : hx_hc t (k + 1) = hx_hc t k := by
        rw [hx_hcS, if_neg c, Nat.add_zero]
      have e2 : hx_flk t (k + 1) = hx_flk t k := by
        funext i
        unfold hx_flk
        by_cases z : i = 45 + k
        · subst z
          rw [if_neg (by rintro ⟨_, _, x⟩; exact c x), if_neg (by omega)]
        · by_cases y : 45 ≤ i ∧ i < 45 + k ∧ t i < 0
          · rw [if_pos y, if_pos ⟨y.1, by omega, y.2.2⟩]
          · rw [if_neg y, if_neg (by rintro ⟨x1, x2, x3⟩; exact y ⟨x1, by omega, x3⟩)]
      have := ih μ (by omega) f (by rw [e2]; exact hs)
      rw [e1] at this
      exact this
    rw [hq_M_falls_4 _ _ _ _ _ hκ, hx_SR0 hs (i := 20) (by omega), hx_flO _ _ (by omega), e20', if_pos (nI_lt (by omega) (by omega)), hx_SR0 hs (i := 17) (by omega), hx_flO _ _ (by omega), show (21 : Int32) + nI k = nI (21 + k) from nI_add 21 k, show (45 : Int32) + nI k = nI (45 + k) from nI_add 45 k]
    by_cases c : t (45 + k) < 0
    · obtain ⟨a, b⟩ := hk' c
      rw [if_neg a, if_pos (hx_in (by omega) (by omega)), nI_clamp (by omega), hx_SR0 hs (by omega), hx_flO _ _ (by omega), if_pos b, if_pos (hx_in (by omega) (by omega)), nI_clamp (by omega), hx_SR0 hs (by omega), ekk, if_pos c, if_pos (hx_in (by omega) (by omega)), hx_SR0 hs (by omega), hx_flO _ _ (by omega), hq_M_falls_54 _ _ _ _ _ hκ, nI_1, nI_1]
      have e1 : hx_hc t (k + 1) = hx_hc t k + 1 := by
        rw [hx_hcS, if_pos c]
      rw [← e1]
      apply ih _ (by omega) (hx_wr f _ ⟨rfl, rfl⟩)
      apply hx_SRw hs
      · unfold hx_flk
        rw [if_pos ⟨by omega, by omega, c⟩]
      · intro i _ z
        unfold hx_flk
        by_cases y : 45 ≤ i ∧ i < 45 + k ∧ t i < 0
        · rw [if_pos y, if_pos ⟨y.1, by omega, y.2.2⟩]
        · rw [if_neg y, if_neg (by rintro ⟨x1, x2, x3⟩; exact y ⟨x1, by omega, x3⟩)]
    · by_cases a : t 17 < 0
      · rw [if_pos a]
        exact skip c
      · rw [if_neg a, if_pos (hx_in (by omega) (by omega))]
        split
        · rw [if_pos (hx_in (by omega) (by omega)), nI_clamp (by omega), hx_SR0 hs (by omega), ekk, if_neg c]
          exact skip c
        · exact skip c
theorem hx_falls (d : Nat) {κ : Nat} (hκ : hx_K3 κ) {P W : Nat} {t : hx_St} (ht : hx_tw P W t) {μ : hs_M} (hs : hx_SR μ κ 0 t) : ∃ μ', hc_M_falls (d + 1) κ μ = some (some (vI (nI (hx_hold t))), μ') ∧ hx_fr (fun κ' b _ => b = 0 ∧ κ' = κ) μ μ' ∧ hx_SR μ' κ 0 (hx_flk t (t 20).toNatClampNeg) := by
  obtain ⟨L, hL, e20, hl⟩ := ht.2.2.1
  rw [hq_M_falls _ _ _ hκ]
  unfold hx_hold
  rw [e20, nI_clamp (by omega)]
  have e : hx_flk t 0 = t := by
    funext i
    unfold hx_flk
    rw [if_neg (by omega)]
  exact hx_fallL d hκ ht hL e20 L 0 μ (by omega) (hx_rf _ _) (by rw [e]; exact hs)
theorem hx_gBS (E : hx_Env) (t : hx_St) (S : Nat → Bool) (n : Nat) : hx_gB E t S (n + 1) = if hx_stn t S n = true ∧ (hx_gB E t S n < 0 ∨ hx_sw E (t (hx_gB E t S n).toNatClampNeg) < hx_sw E (t n)) then nI n else hx_gB E t S n := rfl
/-- what comes behind the choice -/
theorem hx_gBL (d : Nat) {κ : Nat} (hκ : hx_K3 κ) {E : hx_Env} {t : hx_St} {μ : hs_M} (hE : hx_ER μ E) (hs : hx_SR μ κ 0 t) (a : Int32) : ∀ (m k : Nat), k + m = hx_P E → he_M_goes_5 (d + 2) κ a (hx_gB E t (bt a) k) (nI k) μ = he_M_goes_5 (d + 2) κ a (hx_gB E t (bt a) (hx_P E)) (nI (hx_P E)) μ
  | 0, k, hk => by rw [show k = hx_P E from hk]
  | m + 1, k, hk => by
    have h8 := hE.1.1
    have ih := hx_gBL d hκ hE hs a m (k + 1) (by omega)
    rw [← ih]
    have skip : ¬ (hx_stn t (bt a) k = true ∧ (hx_gB E t (bt a) k < 0 ∨ hx_sw E (t (hx_gB E t (bt a) k).toNatClampNeg) < hx_sw E (t k))) → he_M_goes_83 (d + 2) κ a (hx_gB E t (bt a) k) (nI k) μ = he_M_goes_5 (d + 2) κ a (hx_gB E t (bt a) (k + 1)) (nI (k + 1)) μ := by
      intro c
      rw [hq_M_goes_83 _ _ _ _ _ _ hκ, nI_1, hx_gBS, if_neg c]
    have take : (hx_stn t (bt a) k = true ∧ (hx_gB E t (bt a) k < 0 ∨ hx_sw E (t (hx_gB E t (bt a) k).toNatClampNeg) < hx_sw E (t k))) → he_M_goes_78 (d + 2) κ a (nI k) μ = he_M_goes_5 (d + 2) κ a (hx_gB E t (bt a) (k + 1)) (nI (k + 1)) μ := by
      intro c
      rw [hq_M_goes_78 _ _ _ _ _ hκ, nI_1, hx_gBS, if_pos c]
    rw [hq_M_goes_5 _ _ _ _ _ _ hκ, hx_rP hE, if_pos (nI_lt (by omega) (by omega)), hx_has _ _ (by omega), hx_bI, hx_tn0]
    by_cases c1 : bt a k = true
    rotate_left
    · rw [if_neg c1, hq_M_goes_48 _ _ _ _ _ _ hκ]
      apply skip
      rintro ⟨x, _⟩
      unfold hx_stn at x
      rw [Bool.not_eq_true] at c1
      rw [c1] at x
      cases x
    rw [if_pos c1, hx_has _ _ (by omega), hx_bI, hx_tn0, hx_SR0 hs (by omega)]
    by_cases c2 : bt (t 16) k = true
    rotate_left
    · rw [if_neg c2, hq_M_goes_48 _ _ _ _ _ _ hκ]
      apply skip
      rintro ⟨x, _⟩
      unfold hx_stn at x
      rw [Bool.not_eq_true] at c2
      rw [c1, c2] at x
      cases x
    rw [if_pos c2, hx_SR0 hs (i := 17) (by omega)]
    by_cases c3 : nI k = t 17
    · rw [if_pos c3, hq_M_goes_48 _ _ _ _ _ _ hκ]
      apply skip
      rintro ⟨x, _⟩
      unfold hx_stn at x
      rw [c1, c2, decide_eq_true c3] at x
      cases x
    have hst : hx_stn t (bt a) k = true := by
      unfold hx_stn
      rw [c1, c2, decide_eq_false c3]
      rfl
    rw [if_neg c3]
    by_cases c4 : hx_gB E t (bt a) k < 0
    · rw [if_pos c4]
      exact take ⟨hst, Or.inl c4⟩
    rw [if_neg c4]
    have hb : ∃ p, p < k ∧ hx_gB E t (bt a) k = nI p := by
      rcases hx_gBr E t (bt a) k with e | ⟨p, h1, h2, _⟩
      · rw [e] at c4
        exact absurd hx_m1 c4
      · exact ⟨p, h1, h2⟩
    obtain ⟨p, hp, ep⟩ := hb
    rw [if_pos (hx_in (by omega) (by omega)), nI_clamp (by omega), hx_SR0 hs (i := k) (by omega), hx_rS hE, hx_bI, ep, if_pos (hx_in (by omega) (by omega)), nI_clamp (by omega), hx_SR0 hs (i := p) (by omega), hx_rS hE, hx_bI, ← ep]
    by_cases c5 : hx_sw E (t p) < hx_sw E (t k)
    · rw [if_pos c5]
      apply take
      refine ⟨hst, Or.inr ?_⟩
      rw [ep, nI_clamp (by omega)]
      exact c5
    · rw [if_neg c5]
      apply skip
      rintro ⟨_, x | x⟩
      · exact c4 x
      · rw [ep, nI_clamp (by omega)] at x
        exact c5 x
theorem hx_chkS {E : hx_Env} {t : hx_St} {k : Nat} (c : ¬ (bt (t 16) k = true ∧ 0 < hx_Hl E k)) : hx_chk E t (k + 1) = hx_chk E t k := by
  funext i
  unfold hx_chk
  by_cases e : i = k
  · subst e
    rw [if_neg (by rintro ⟨_, y⟩; exact c y), if_neg (by omega)]
  · by_cases z : i < k ∧ bt (t 16) i = true ∧ 0 < hx_Hl E i
    · rw [if_pos z, if_pos ⟨by omega, z.2⟩]
    · rw [if_neg z, if_neg (by rintro ⟨x, y⟩; exact z ⟨by omega, y⟩)]
theorem hx_chML (d : Nat) {κ : Nat} (hκ : hx_K3 κ) {E : hx_Env} {t : hx_St} {n : Nat} (hn : n < 2 ^ 30) (e19 : t 19 = nI n) {μ0 : hs_M} (hE : hx_ER μ0 E) : ∀ (m k : Nat) (μ : hs_M), k + m = hx_P E → hx_fr (hx_xG κ) μ0 μ → μ.1 12 0 27 = μ0.1 12 0 27 → hx_SR μ κ 0 (hx_chk E t k) → ∃ μ', he_M_goes_193 (d + 2) κ (nI k) μ = some (none, μ') ∧ hx_fr (hx_xG κ) μ0 μ' ∧ μ'.1 12 0 27 = μ0.1 12 0 27 ∧ hx_SR μ' κ 0 (hx_nx (hx_chk E t (hx_P E)))
  | 0, k, μ, hk, f, h27, hs => by
    have h8 := hE.1.1
    have hE1 := hx_ERG hκ f hE
    rw [hq_M_goes_193 _ _ _ _ hκ, hx_rP hE1, if_neg (nI_nlt (by omega) (by omega))]
    have e : k = hx_P E := hk
    rw [e] at hs
    refine ⟨_, rfl, hx_wr f _ ⟨rfl, Or.inl rfl⟩, ?_, ?_⟩
    · rw [hx_rd, if_neg (by unfold hx_K3 at hκ; omega), h27]
    · apply hx_SRw hs
      · rw [hx_SR0 hs (by omega)]
        rfl
      · intro i _ z
        exact if_neg z
  | m + 1, k, μ, hk, f, h27, hs => by
    have h8 := hE.1.1
    have hE1 := hx_ERG hκ f hE
    have h6 := hE.1.2.1 k (by omega)
    have ih := hx_chML d hκ hn e19 hE m (k + 1)
    rw [hq_M_goes_193 _ _ _ _ hκ, hx_rP hE1, if_pos (nI_lt (by omega) (by omega)), hx_SR0 hs (i := 16) (by omega), hx_chO _ _ (by omega), hx_has _ _ (by omega), hx_bI, hx_tn0]
    by_cases c1 : bt (t 16) k = true
    rotate_left
    · rw [if_neg c1, hq_M_goes_266 _ _ _ _ hκ, nI_1]
      exact ih μ (by omega) f h27 (by rw [hx_chkS (by rintro ⟨x, _⟩; exact c1 x)]; exact hs)
    rw [if_pos c1, if_pos (hx_in (by omega) (by omega)), nI_clamp (by omega), hE1.2.2.2.2.1 k (by omega)]
    by_cases c2 : 0 < hx_Hl E k
    rotate_left
    · rw [if_neg (show ¬ (0 : Int32) < nI (hx_Hl E k) from nI_nlt (b := hx_Hl E k) (a := 0) (by omega) (by omega)), hq_M_goes_266 _ _ _ _ hκ, nI_1]
      exact ih μ (by omega) f h27 (by rw [hx_chkS (by rintro ⟨_, x⟩; exact c2 x)]; exact hs)
    have hm : n % hx_Hl E k < hx_Hl E k := Nat.mod_lt _ c2
    have ei : 6 * nI k + nI (n % hx_Hl E k) = nI (6 * k + n % hx_Hl E k) := by
      rw [show (6 : Int32) = nI 6 from rfl, pk_mul, nI_add]
    have ekk : hx_chk E t k k = t k := hx_chO _ _ (by omega)
    rw [if_pos (show (0 : Int32) < nI (hx_Hl E k) from nI_lt (a := 0) c2 (by omega)), if_pos (hx_in (by omega) (by omega)), if_pos (hx_in (by omega) (by omega)), if_neg (nI_ne0 c2 (by omega)), hx_SR0 hs (i := 19) (by omega), hx_chO _ _ (by omega), e19, pk_rem (by omega) c2 (by omega), ei, if_pos (hx_in (by omega) (by omega)), nI_clamp (by omega), hE1.2.2.2.2.2.1 k _ (by omega) hm, hx_SR0 hs (i := k) (by omega), ekk, hx_min, hx_bI, hx_max, hx_bI, hx_mm, if_pos (hx_in (by omega) (by omega)), hq_M_goes_266 _ _ _ _ hκ, nI_1]
    apply ih _ (by omega) (hx_wr f _ ⟨rfl, Or.inl rfl⟩)
    · rw [hx_rd, if_neg (by unfold hx_K3 at hκ; omega), h27]
    · apply hx_SRw hs
      · unfold hx_chk
        rw [if_pos ⟨by omega, c1, c2⟩, e19, nI_clamp (by omega)]
      · intro i _ z
        unfold hx_chk
        by_cases y : i < k ∧ bt (t 16) i = true ∧ 0 < hx_Hl E i
        · rw [if_pos y, if_pos ⟨by omega, y.2⟩]
        · rw [if_neg y, if_neg (by rintro ⟨x, x2⟩; exact y ⟨by omega, x2⟩)]
theorem hx_go146 (d : Nat) {κ : Nat} (hκ : hx_K3 κ) {E : hx_Env} {t : hx_St} {n : Nat} (hn : n < 2 ^ 30) (e19 : t 19 = nI n) (hw : hx_wr8 (hx_P E) (t 17)) {μ : hs_M} (hE : hx_ER μ E) (hs : hx_SR μ κ 0 t) : ∃ μ', he_M_goes_146 (d + 2) κ μ = some (none, μ') ∧ hx_fr (hx_xG κ) μ μ' ∧ μ'.1 12 0 27 = μ.1 12 0 27 ∧ hx_SR μ' κ 0 (hx_nx (hx_chk E (hx_hi (hx_sv t)) (hx_P E))) := by
  have h8 := hE.1.1
  have k12 : κ ≠ 12 := by unfold hx_K3 at hκ; omega
  have last : ∀ μ1, hx_fr (hx_xG κ) μ μ1 → μ1.1 12 0 27 = μ.1 12 0 27 → hx_SR μ1 κ 0 (hx_sv t) → hx_sv t 19 = t 19 → ∃ μ', he_M_goes_174 (d + 2) κ μ1 = some (none, μ') ∧ hx_fr (hx_xG κ) μ μ' ∧ μ'.1 12 0 27 = μ.1 12 0 27 ∧ hx_SR μ' κ 0 (hx_nx (hx_chk E (hx_hi (hx_sv t)) (hx_P E))) := by
    intro μ1 f1 h27 hs1 es
    have e : (nI n - nI n / 60 * 60) = nI (n % 60) := pk_rem (a := n) (d := 60) (by omega) (by omega) (by omega)
    have hm : n % 60 < 60 := Nat.mod_lt _ (by omega)
    rw [hq_M_goes_174 _ _ _ hκ, hx_SR0 hs1 (i := 19) (by omega), es, e19, e, show (57 : Int32) + nI (n % 60) = nI (57 + n % 60) from nI_add 57 _, if_pos (hx_in (by omega) (by omega)), nI_clamp (by omega)]
    have f2 : hx_fr (hx_xG κ) μ (hs_wI μ1 κ 0 (57 + n % 60) (μ1.1 κ 0 17)) := hx_wr f1 _ ⟨rfl, Or.inl rfl⟩
    have hs2 : hx_SR (hs_wI μ1 κ 0 (57 + n % 60) (μ1.1 κ 0 17)) κ 0 (hx_hi (hx_sv t)) := by
      apply hx_SRw hs1
      · unfold hx_hi
        rw [es, e19, nI_clamp (by omega), if_pos rfl, hx_SR0 hs1 (by omega)]
      · intro i _ z
        unfold hx_hi
        rw [es, e19, nI_clamp (by omega), if_neg z]
    have e0 : hx_chk E (hx_hi (hx_sv t)) 0 = hx_hi (hx_sv t) := by
      funext i
      exact hx_chO _ _ (by omega)
    obtain ⟨μ', x1, x2, x3, x4⟩ := hx_chML d hκ (E := E) (t := hx_hi (hx_sv t)) hn (by rw [hx_hiO _ (by omega), es, e19]) (hx_ERG hκ f2 hE) (hx_P E) 0 _ (by omega) (hx_rf _ _) rfl (by rw [e0]; exact hs2)
    refine ⟨μ', x1, hx_tr f2 x2, ?_, x4⟩
    rw [x3, hx_rd, if_neg (by omega), h27]
  rw [hq_M_goes_146 _ _ _ hκ, hx_SR0 hs (i := 17) (by omega)]
  rcases hx_wrN h8 hw with ⟨a, e⟩ | ⟨a, ne, p, hp, e⟩
  · have es : hx_sv t = t := by
      unfold hx_sv
      rw [if_pos a]
    rw [if_pos a]
    exact last μ (hx_rf _ _) rfl (by rw [es]; exact hs) (by rw [es])
  · rw [if_neg a, e, show (8 : Int32) + nI p = nI (8 + p) from nI_add 8 p, if_pos (hx_in (by omega) (by omega)), if_pos (hx_in (by omega) (by omega)), nI_clamp (by omega)]
    have es : hx_sv t = fun i => if i = 8 + p then t i + 1 else if i = 18 then t 18 + 1 else t i := by
      unfold hx_sv
      rw [if_neg a, e, nI_clamp (by omega)]
    apply last
    · exact hx_wr (hx_wr (hx_rf _ _) _ ⟨rfl, Or.inl rfl⟩) _ ⟨rfl, Or.inl rfl⟩
    · rw [hx_rd, if_neg (by omega), hx_rd, if_neg (by omega)]
    · rw [es]
      have h1 : hx_SR (hs_wI μ κ 0 (8 + p) (μ.1 κ 0 (8 + p) + 1)) κ 0 (fun i => if i = 8 + p then t i + 1 else t i) := by
        apply hx_SRw hs
        · skip
          rw [if_pos rfl, hx_SR0 hs (by omega)]
        · intro i _ z
          exact if_neg z
      apply hx_SRw h1
      · skip
        rw [if_neg (by omega), if_pos rfl, hx_SR0 h1 (by omega)]
        skip
        rw [if_neg (by omega)]
      · intro i _ z
        skip
        by_cases y : i = 8 + p
        · rw [if_pos y, if_pos y]
        · rw [if_neg y, if_neg z, if_neg y]
    · rw [es]
      dsimp only
      rw [if_neg (by omega), if_neg (by omega)]
theorem hx_goes (d : Nat) {κ : Nat} (hκ : hx_K3 κ) {μ : hs_M} {E : hx_Env} (hE : hx_ER μ E) {W : Nat} (hW : W < 2 ^ 30) {t : hx_St} (ht : hx_tw (hx_P E) W t) (hs : hx_SR μ κ 0 t) (a : Int32) : ∃ μ', hc_M_goes (d + 3) κ a μ = some (none, μ') ∧ hx_fr (hx_xG κ) μ μ' ∧ hx_SR μ' κ 0 (hx_stp E t (bt a)) ∧ μ'.1 12 0 27 = μ.1 12 0 27 + (if hx_win E t (bt a) (hx_P E) = -1 then 0 else nI (hx_hold t)) := by
  have h8 := hE.1.1
  have k12 : κ ≠ 12 := by unfold hx_K3 at hκ; omega
  obtain ⟨n, hn, e19⟩ := ht.2.1
  have hL := hx_L ht
  have l := hx_gBL d hκ hE hs a (hx_P E) 0 (by omega)
  rw [hq_M_goes _ _ _ _ hκ]
  rw [show hx_gB E t (bt a) 0 = -1 from rfl, show nI 0 = (0 : Int32) from rfl] at l
  rw [l, hq_M_goes_5 _ _ _ _ _ _ hκ, hx_rP hE, if_neg (nI_nlt (by omega) (by omega))]
  have no : ¬ hx_wcn E t (bt a) (hx_P E) → ∃ μ', he_M_goes_146 (d + 2) κ μ = some (none, μ') ∧ hx_fr (hx_xG κ) μ μ' ∧ hx_SR μ' κ 0 (hx_stp E t (bt a)) ∧ μ'.1 12 0 27 = μ.1 12 0 27 + (if hx_win E t (bt a) (hx_P E) = -1 then 0 else nI (hx_hold t)) := by
    intro c
    have ew := hx_winF c
    obtain ⟨μ', x1, x2, x3, x4⟩ := hx_go146 d hκ (E := E) (t := t) (n := n) (by omega) e19 ht.1 hE hs
    refine ⟨μ', x1, x2, ?_, ?_⟩
    · unfold hx_stp hx_fin
      rw [ew]
      have : hx_tk t (-1) = t := if_pos rfl
      rw [this]
      exact x4
    · rw [x3, ew, if_pos rfl, Int32.add_zero]
  have yes : hx_wcn E t (bt a) (hx_P E) → ∃ μ', he_M_goes_122 (d + 2) κ (hx_gB E t (bt a) (hx_P E)) μ = some (none, μ') ∧ hx_fr (hx_xG κ) μ μ' ∧ hx_SR μ' κ 0 (hx_stp E t (bt a)) ∧ μ'.1 12 0 27 = μ.1 12 0 27 + (if hx_win E t (bt a) (hx_P E) = -1 then 0 else nI (hx_hold t)) := by
    intro c
    have ew := hx_winT c
    have hne : hx_gB E t (bt a) (hx_P E) ≠ -1 := by
      intro x
      have := c.1
      rw [x] at this
      exact this hx_m1
    have hb : hx_wr8 (hx_P E) (hx_gB E t (bt a) (hx_P E)) := by
      rcases hx_gBr E t (bt a) (hx_P E) with e | ⟨p, h1, h2, _⟩
      · exact absurd e hne
      · exact Or.inr ⟨p, h1, h2⟩
    obtain ⟨μ1, e1, f1, s1⟩ := hx_falls (d + 1) hκ ht hs
    rw [hq_M_goes_122 _ _ _ _ hκ, e1, hx_bI]
    have s2 : hx_SR (hs_wI (hs_wI (hs_wI μ1 12 0 27 (μ.1 12 0 27 + nI (hx_hold t))) κ 0 17 (hx_gB E t (bt a) (hx_P E))) κ 0 18 0) κ 0 (hx_tk t (hx_gB E t (bt a) (hx_P E))) := by
      apply hx_SRi
      intro i hi
      rw [hx_rd]
      unfold hx_tk
      rw [if_neg hne]
      skip
      by_cases c18 : i = 18
      · rw [if_pos ⟨rfl, c18, rfl⟩, if_neg (by omega), if_pos c18]
      · rw [if_neg (by omega), if_neg c18, hx_rd]
        by_cases c17 : i = 17
        · rw [if_pos ⟨rfl, c17, rfl⟩, if_pos c17]
        · rw [if_neg (by omega), if_neg c17, hx_rd, if_neg (by omega), hx_SR0 s1 hi]
          rfl
    have f1' : hx_fr (hx_xG κ) μ μ1 := hx_mo (fun κ' b i x => ⟨x.1, Or.inl x.2⟩) f1
    have f2 : hx_fr (hx_xG κ) μ (hs_wI (hs_wI (hs_wI μ1 12 0 27 (μ.1 12 0 27 + nI (hx_hold t))) κ 0 17 (hx_gB E t (bt a) (hx_P E))) κ 0 18 0) := hx_wr (hx_wr (hx_wr f1' _ ⟨rfl, Or.inr ⟨rfl, rfl⟩⟩) _ ⟨rfl, Or.inl rfl⟩) _ ⟨rfl, Or.inl rfl⟩
    obtain ⟨μ', x1, x2, x3, x4⟩ := hx_go146 d hκ (E := E) (t := hx_tk t (hx_gB E t (bt a) (hx_P E))) (n := n) (by omega) (by rw [hx_tkO _ _ (by omega) (by omega) (by omega), e19]) (by rw [hx_tk17]; exact hx_woR ht hb) (hx_ERG hκ f2 hE) s2
    refine ⟨μ', x1, hx_tr f2 x2, ?_, ?_⟩
    · unfold hx_stp hx_fin
      rw [ew]
      exact x4
    · rw [x3, ew, if_neg hne, hx_rd, if_neg (by omega), hx_rd, if_neg (by omega), hx_rd, if_pos ⟨rfl, rfl, rfl⟩]
  by_cases c1 : hx_gB E t (bt a) (hx_P E) < 0
  · rw [if_pos c1]
    exact no (fun x => x.1 c1)
  rw [if_neg c1, hx_SR0 hs (i := 17) (by omega)]
  have hb : ∃ p, p < hx_P E ∧ hx_gB E t (bt a) (hx_P E) = nI p := by
    rcases hx_gBr E t (bt a) (hx_P E) with e | ⟨p, h1, h2, _⟩
    · rw [e] at c1
      exact absurd hx_m1 c1
    · exact ⟨p, h1, h2⟩
  obtain ⟨p, hp, ep⟩ := hb
  rcases hx_who ht h8 with ⟨w, _⟩ | ⟨w, q, hq, e⟩
  · rw [if_pos w]
    apply yes
    refine ⟨c1, ?_⟩
    unfold hx_bar
    rw [if_pos w]
    exact hx_sw1 hE.1 _
  · rw [if_neg w]
    have eb : hx_bar E t = hx_sw E (t q) := by
      unfold hx_bar
      rw [if_neg w, e, nI_clamp (by omega)]
    have hq117 : hs_in (t 17) 117 = true := by
      rw [e]
      exact hx_in (by omega) (by omega)
    have hqc : (t 17).toNatClampNeg = q := by
      rw [e, nI_clamp (by omega)]
    rw [if_pos (show hs_in (hx_gB E t (bt a) (hx_P E)) 117 = true by rw [ep]; exact hx_in (by omega) (by omega)), hx_SR0 hs (i := (hx_gB E t (bt a) (hx_P E)).toNatClampNeg) (by rw [ep, nI_clamp (by omega)]; omega), hx_rS hE, hx_bI, hx_SR0 hs (i := 17) (by omega), if_pos hq117, hqc, hx_SR0 hs (i := q) (by omega), hx_rS hE, hx_bI]
    by_cases c5 : hx_sw E (t q) < hx_sw E (t (hx_gB E t (bt a) (hx_P E)).toNatClampNeg)
    · rw [if_pos c5]
      apply yes
      refine ⟨c1, ?_⟩
      rw [eb]
      exact c5
    · rw [if_neg c5]
      apply no
      rintro ⟨_, x⟩
      rw [eb] at x
      exact c5 x
