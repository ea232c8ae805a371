/-! ===== E: fractions; how likely ===== -/
theorem hx_half {a b : Nat} (hr : 0 < a % b) (hb : 0 < b) : 2 * (b % (a % b)) < b := by
  have h1 : a % b < b := Nat.mod_lt _ hb
  have h2 : b % (a % b) < a % b := Nat.mod_lt _ hr
  by_cases c : 2 * (a % b) ≤ b
  · omega
  · have : b % (a % b) = b - a % b := by
      rw [Nat.mod_eq_sub_mod (by omega), Nat.mod_eq_of_lt (by omega)]
    omega
theorem hx_lz {b : Nat} (hb : b < 2 ^ 63) : lN b = 0 ↔ b = 0 := pk_lEQ (b := 0) hb (by omega)
theorem hx_gcC (d : Nat) (μ : hs_M) : ∀ (k a b c : Nat), a < 2 ^ 63 → b < 2 ^ k → k ≤ 62 → c + 2 * k < 200 → he_Row_commonDivisor_3 d (lN a) (lN b) (nI c) μ = some (some (vL (lN (Nat.gcd b a))), μ)
  | 0, a, b, c, ha, hb, _, hc => by
    have e : b = 0 := by
      rw [Nat.pow_zero] at hb
      omega
    subst e
    rw [hq_Row_commonDivisor_3, if_pos (show nI c < (200 : Int32) from nI_lt (b := 200) (by omega) (by omega)), if_pos (by rw [lg_cmp_eq]; rfl), hq_Row_commonDivisor_33, Nat.gcd_zero_left]
  | k + 1, a, b, c, ha, hb, hk, hc => by
    have h62 : 2 ^ (k + 1) ≤ 2 ^ 62 := Nat.pow_le_pow_right (by omega) hk
    have b63 : b < 2 ^ 63 := by omega
    rw [hq_Row_commonDivisor_3, if_pos (show nI c < (200 : Int32) from nI_lt (b := 200) (by omega) (by omega))]
    by_cases z : b = 0
    · subst z
      rw [if_pos (by rw [lg_cmp_eq]; rfl), hq_Row_commonDivisor_33, Nat.gcd_zero_left]
    · rw [if_neg (by rw [lg_cmp_eq]; exact fun y => z ((hx_lz b63).mp y)), if_neg (fun y => z ((hx_lz b63).mp y)), pk_lRem ha (by omega) b63, nI_1, Nat.gcd_rec]
      have hr : a % b < b := Nat.mod_lt _ (by omega)
      rw [hq_Row_commonDivisor_3, if_pos (show nI (c + 1) < (200 : Int32) from nI_lt (b := 200) (by omega) (by omega))]
      by_cases z2 : a % b = 0
      · rw [z2, if_pos (by rw [lg_cmp_eq]; rfl), hq_Row_commonDivisor_33, Nat.gcd_zero_left]
      · have r63 : a % b < 2 ^ 63 := by omega
        rw [if_neg (by rw [lg_cmp_eq]; exact fun y => z2 ((hx_lz r63).mp y)), if_neg (fun y => z2 ((hx_lz r63).mp y)), pk_lRem b63 (by omega) r63, nI_1, Nat.gcd_rec]
        have hh := hx_half (a := a) (b := b) (by omega) (by omega)
        exact hx_gcC d μ k (a % b) (b % (a % b)) (c + 1 + 1) (by omega) (by rw [Nat.pow_succ] at hb; omega) (by omega) (by omega)
theorem hx_gcR (μ : hs_M) : ∀ (k a b D : Nat), a < 2 ^ 63 → b < 2 ^ k → k ≤ 62 → 2 * k + 1 ≤ D → hc_M_common D (lN a) (lN b) μ = some (some (vL (lN (Nat.gcd b a))), μ)
  | 0, a, b, D, ha, hb, _, hD => by
    obtain ⟨D', rfl⟩ : ∃ D', D = D' + 1 := ⟨D - 1, by omega⟩
    have e : b = 0 := by
      rw [Nat.pow_zero] at hb
      omega
    subst e
    rw [hq_M_common, if_pos (by rw [lg_cmp_eq]; rfl), Nat.gcd_zero_left]
  | k + 1, a, b, D, ha, hb, hk, hD => by
    obtain ⟨D', rfl⟩ : ∃ D', D = D' + 1 + 1 := ⟨D - 2, by omega⟩
    have h62 : 2 ^ (k + 1) ≤ 2 ^ 62 := Nat.pow_le_pow_right (by omega) hk
    have b63 : b < 2 ^ 63 := by omega
    rw [hq_M_common]
    by_cases z : b = 0
    · subst z
      rw [if_pos (by rw [lg_cmp_eq]; rfl), Nat.gcd_zero_left]
    · rw [if_neg (by rw [lg_cmp_eq]; exact fun y => z ((hx_lz b63).mp y)), if_neg (fun y => z ((hx_lz b63).mp y)), pk_lRem ha (by omega) b63, Nat.gcd_rec]
      have hr : a % b < b := Nat.mod_lt _ (by omega)
      rw [hq_M_common]
      by_cases z2 : a % b = 0
      · rw [z2, if_pos (by rw [lg_cmp_eq]; rfl), Nat.gcd_zero_left, hx_bL]
      · have r63 : a % b < 2 ^ 63 := by omega
        have hh := hx_half (a := a) (b := b) (by omega) (by omega)
        rw [if_neg (by rw [lg_cmp_eq]; exact fun y => z2 ((hx_lz r63).mp y)), if_neg (fun y => z2 ((hx_lz r63).mp y)), pk_lRem b63 (by omega) r63, Nat.gcd_rec, hx_gcR μ k (a % b) (b % (a % b)) D' (by omega) (by rw [Nat.pow_succ] at hb; omega) (by omega) (by omega), hx_bL, hx_bL]
def hx_fl (a b : Nat) : List Int64 := [lN (a / Nat.gcd b a), lN (b / Nat.gcd b a)]
theorem hx_frC (d : Nat) {a b : Nat} (ha : a < 2 ^ 63) (hb : 0 < b) (hb2 : b < 2 ^ 54) (μ : hs_M) : ∃ μ', hc_Row_fraction (d + 3) (lN a) (lN b) μ = some (none, μ') ∧ hx_fr hx_xR μ μ' ∧ hx_rwC μ' (hx_fl a b) := by
  have g0 : 0 < Nat.gcd b a := Nat.gcd_pos_of_pos_left a hb
  have g1 : Nat.gcd b a ≤ b := Nat.gcd_le_left a hb
  obtain ⟨μ1, e1, f1, r1⟩ := hx_begin d μ (lN (a / Nat.gcd b a))
  obtain ⟨μ2, e2, f2, r2⟩ := hx_add (d + 1) r1 (by show 1 < 16; omega) (lN (b / Nat.gcd b a))
  rw [hq_Row_fraction, hq_Row_commonDivisor, show (0 : Int32) = nI 0 from rfl, hx_gcC _ μ 54 a b 0 ha hb2 (by omega) (by omega), hx_bL, if_pos (by rw [show nI 0 = (0 : Int32) from rfl, lg_cmp_gt]; exact (pk_lLT (a := 0) (by omega) (by omega)).mpr g0), if_neg (fun z => by have := (hx_lz (by omega)).mp z; omega), pk_lDiv ha g0 (by omega), e1, hx_bV, if_neg (fun z => by have := (hx_lz (by omega)).mp z; omega), pk_lDiv (by omega) g0 (by omega), e2, hx_bV, hq_Row_fraction_30]
  exact ⟨μ2, rfl, hx_tr f1 f2, r2⟩
theorem hx_frR (d : Nat) {a b : Nat} (ha : a < 2 ^ 63) (hb : 0 < b) (hb2 : b < 2 ^ 54) {μ : hs_M} (hr : hx_rwR μ []) : ∃ μ', hc_M_entersFraction (d + 111) (lN a) (lN b) μ = some (none, μ') ∧ hx_fr hx_yR μ μ' ∧ hx_rwR μ' (hx_fl a b) := by
  have g0 : 0 < Nat.gcd b a := Nat.gcd_pos_of_pos_left a hb
  have g1 : Nat.gcd b a ≤ b := Nat.gcd_le_left a hb
  obtain ⟨μ1, e1, f1, r1⟩ := hx_ent (d + 109) hr (by decide) (lN (a / Nat.gcd b a))
  obtain ⟨μ2, e2, f2, r2⟩ := hx_ent (d + 109) r1 (by show 1 < 16; omega) (lN (b / Nat.gcd b a))
  rw [hq_M_entersFraction, hx_gcR μ 54 a b _ ha hb2 (by omega) (by omega), hx_bL, if_neg (fun z => by have := (hx_lz (by omega)).mp z; omega), pk_lDiv ha g0 (by omega), e1, hx_bV, if_neg (fun z => by have := (hx_lz (by omega)).mp z; omega), pk_lDiv (by omega) g0 (by omega), e2, hx_bV]
  exact ⟨μ2, rfl, hx_tr f1 f2, r2⟩
/-! who may take it: the heaviest of some -/
def hx_ob (E : hx_Env) (s : hx_St) (o : Int32) : Nat → Int32
  | 0 => -1
  | k + 1 => if bt o k = true ∧ (hx_ob E s o k < 0 ∨ hx_sw E (s (hx_ob E s o k).toNatClampNeg) < hx_sw E (s k)) then nI k else hx_ob E s o k
theorem hx_obS (E : hx_Env) (s : hx_St) (o : Int32) (k : Nat) : hx_ob E s o (k + 1) = if bt o k = true ∧ (hx_ob E s o k < 0 ∨ hx_sw E (s (hx_ob E s o k).toNatClampNeg) < hx_sw E (s k)) then nI k else hx_ob E s o k := rfl
theorem hx_obR (E : hx_Env) (s : hx_St) (o : Int32) : ∀ k, (hx_ob E s o k = -1 ∧ ∀ i, i < k → bt o i = false) ∨ ∃ p, p < k ∧ hx_ob E s o k = nI p ∧ bt o p = true
  | 0 => Or.inl ⟨rfl, fun i h => absurd h (by omega)⟩
  | k + 1 => by
    rw [hx_obS]
    by_cases c : bt o k = true ∧ (hx_ob E s o k < 0 ∨ hx_sw E (s (hx_ob E s o k).toNatClampNeg) < hx_sw E (s k))
    · rw [if_pos c]
      exact Or.inr ⟨k, by omega, rfl, c.1⟩
    · rw [if_neg c]
      rcases hx_obR E s o k with ⟨a, b⟩ | ⟨p, h, e, b⟩
      · left
        refine ⟨a, ?_⟩
        intro i hi
        by_cases z : i = k
        · rw [z]
          cases y : bt o k
          · rfl
          · exact absurd ⟨y, Or.inl (by rw [a]; exact hx_m1)⟩ c
        · exact b i (by omega)
      · exact Or.inr ⟨p, by omega, e, b⟩
theorem hx_obx (E : hx_Env) (s : hx_St) {o : Int32} {P : Nat} (h : ∀ i, P ≤ i → i < 8 → bt o i = false) : ∀ m, P + m ≤ 8 → hx_ob E s o (P + m) = hx_ob E s o P
  | 0, _ => rfl
  | m + 1, hm => by
    rw [show P + (m + 1) = P + m + 1 from rfl, hx_obS, if_neg (by rw [h (P + m) (by omega) (by omega)]; rintro ⟨x, _⟩; cases x)]
    exact hx_obx E s h m (by omega)
def hx_hb1 (x : Int32) : Int32 := if x < 0 then 0 else x
def hx_hb2 (E : hx_Env) (s : hx_St) (x : Int32) : Int32 := if x < 0 then -1 else hx_sw E (s x.toNatClampNeg)
theorem hx_hoL (d : Nat) {μ : hs_M} {E : hx_Env} (hE : hx_EC μ E) {j : Nat} {s : hx_St} (hs : hx_SC μ j s) (o : Int32) : ∀ (m k : Nat), k + m = 8 → he_Office_heaviestOf_8 (d + 1) j o (hx_hb1 (hx_ob E s o k)) (hx_hb2 E s (hx_ob E s o k)) (nI k) μ = some (some (vI (hx_hb1 (hx_ob E s o 8))), μ)
  | 0, k, hk => by
    rw [hq_Office_heaviestOf_8, if_neg (show ¬ nI k < (8 : Int32) from nI_nlt (b := 8) (by omega) (by omega)), show k = 8 from hk]
  | m + 1, k, hk => by
    have ih := hx_hoL d hE hs o m (k + 1) (by omega)
    rw [hq_Office_heaviestOf_8, if_pos (show nI k < (8 : Int32) from nI_lt (b := 8) (by omega) (by omega)), hx_bt0 _ (by omega), if_pos (hx_in (by omega) (by omega)), nI_clamp (by omega), hs.1 k (by omega), hx_eS hE, hx_bI, if_pos (hx_in (by omega) (by omega)), hs.1 k (by omega), hx_eS hE, hx_bI, hq_Office_heaviestOf_62, hq_Office_heaviestOf_62, nI_1]
    rw [hx_obS] at ih
    have hp := nI_pos (n := k) (by omega)
    by_cases c : bt o k = true
    · rw [if_pos c]
      by_cases c2 : hx_hb2 E s (hx_ob E s o k) < hx_sw E (s k)
      · rw [if_pos c2]
        rw [if_pos ⟨c, by
          unfold hx_hb2 at c2
          by_cases z : hx_ob E s o k < 0
          · exact Or.inl z
          · rw [if_neg z] at c2
            exact Or.inr c2⟩] at ih
        rw [show hx_hb1 (nI k) = nI k from if_neg hp, show hx_hb2 E s (nI k) = hx_sw E (s k) by unfold hx_hb2; rw [if_neg hp, nI_clamp (by omega)]] at ih
        exact ih
      · rw [if_neg c2]
        rw [if_neg (by
          rintro ⟨_, z | z⟩
          · unfold hx_hb2 at c2
            rw [if_pos z] at c2
            exact c2 (hx_sw1 hE.1 _)
          · unfold hx_hb2 at c2
            by_cases y : hx_ob E s o k < 0
            · rw [if_pos y] at c2
              exact c2 (hx_sw1 hE.1 _)
            · rw [if_neg y] at c2
              exact c2 z)] at ih
        exact ih
    · rw [if_neg c]
      rw [if_neg (by rintro ⟨x, _⟩; exact c x)] at ih
      exact ih
theorem hx_ho (d : Nat) {μ : hs_M} {E : hx_Env} (hE : hx_EC μ E) {j : Nat} {s : hx_St} (hs : hx_SC μ j s) {o : Int32} (ho : ∀ i, hx_P E ≤ i → i < 8 → bt o i = false) : hc_Office_heaviestOf (d + 2) j o μ = some (some (vI (hx_hb1 (hx_ob E s o (hx_P E)))), μ) := by
  have h8 := hE.1.1
  have := hx_hoL d hE hs o 8 0 (by omega)
  have e := hx_obx E s ho (8 - hx_P E) (by omega)
  rw [show hx_P E + (8 - hx_P E) = 8 by omega] at e
  rw [hq_Office_heaviestOf, ← e]
  exact this
theorem hx_obRL (d : Nat) {κ1 κ2 : Nat} (hκ1 : κ1 = 45 ∨ κ1 = 65) (hκ2 : κ2 = 63 ∨ κ2 = 64) {μ : hs_M} {E : hx_Env} (hE : hx_ER μ E) {s : hx_St} (hs : hx_SR μ κ1 0 s) (x4 : Int32) (x5 : Int64) (o : Int32) : ∀ (m k : Nat), k + m = hx_P E → he_M_oddsOf_132 (d + 2) κ1 κ2 x4 x5 o (hx_ob E s o k) (nI k) μ = he_M_oddsOf_132 (d + 2) κ1 κ2 x4 x5 o (hx_ob E s o (hx_P E)) (nI (hx_P E)) μ
  | 0, k, hk => by rw [show k = hx_P E from hk]
  | m + 1, k, hk => by
    have h8 := hE.1.1
    have ih := hx_obRL d hκ1 hκ2 hE hs x4 x5 o m (k + 1) (by omega)
    rw [← ih]
    conv => lhs; rw [hq_M_oddsOf_132 _ _ _ _ _ _ _ _ _ hκ1 hκ2]
    rw [hx_obS, hx_rP hE, if_pos (nI_lt (by omega) (by omega)), hx_has _ _ (by omega), hx_bI, hx_tn0, hq_M_oddsOf_175 _ _ _ _ _ _ _ _ hκ1 hκ2, hq_M_oddsOf_180 _ _ _ _ _ _ _ _ _ hκ1 hκ2, nI_1]
    by_cases c : bt o k = true
    · rw [if_pos c]
      by_cases c2 : hx_ob E s o k < 0
      · rw [if_pos c2, if_pos ⟨c, Or.inl c2⟩]
      · rw [if_neg c2]
        rcases hx_obR E s o k with ⟨a, _⟩ | ⟨p, hp, e, _⟩
        · rw [a] at c2
          exact absurd hx_m1 c2
        · rw [e] at c2 ⊢
          rw [if_pos (hx_in (by omega) (by omega)), nI_clamp (by omega), hx_SR0 hs (by omega), hx_rS hE, hx_bI, if_pos (hx_in (by omega) (by omega)), nI_clamp (by omega), hx_SR0 hs (by omega), hx_rS hE, hx_bI, hq_M_oddsOf_175 _ _ _ _ _ _ _ _ hκ1 hκ2, hq_M_oddsOf_180 _ _ _ _ _ _ _ _ _ hκ1 hκ2, nI_1]
          by_cases c3 : hx_sw E (s p) < hx_sw E (s k)
          · rw [if_pos c3, if_pos ⟨c, Or.inr c3⟩]
          · rw [if_neg c3, if_neg (by rintro ⟨_, z | z⟩; exact c2 z; exact c3 z)]
    · rw [if_neg c, if_neg (by rintro ⟨x, _⟩; exact c x)]
/-! the shares -/
def hx_il (E : hx_Env) (p : Nat) : Nat := (hx_Il E p).toNatClampNeg
theorem hx_ilE {E : hx_Env} (h : hx_ok E) {p : Nat} (hp : p < hx_P E) : hx_Il E p = nI (hx_il E p) ∧ hx_il E p ≤ 9 := by
  obtain ⟨n, hn, e⟩ := h.2.2.2.2.1 p hp
  unfold hx_il
  rw [e, nI_clamp (by omega)]
  exact ⟨rfl, hn⟩
def hx_cut (o : Int32) (p : Nat) : Int32 := o &&& (((1 : Int32) <<< (nI p &&& 31)) ^^^ (-1))
theorem hx_cutT (o : Int32) {p i : Nat} (hp : p < 8) (hi : i < 32) : bt (hx_cut o p) i = (bt o i && !decide (i = p)) := by
  unfold hx_cut
  rw [b_and, hx_not _ hi, hx_one (by omega) hi]
def hx_u64 (sh : Nat → Nat) (p v : Nat) : Nat → Nat := fun i => if i = p then v else sh i
def hx_ol (E : hx_Env) (s : hx_St) : Nat → Int32 → Nat → (Nat → Nat) → Nat × (Nat → Nat)
  | 0, _, l, sh => (l, sh)
  | m + 1, o, l, sh => if o = 0 then (l, sh) else hx_ol E s m (hx_cut o (hx_ob E s o (hx_P E)).toNatClampNeg) (l / 10 * hx_il E (hx_ob E s o (hx_P E)).toNatClampNeg) (hx_u64 sh (hx_ob E s o (hx_P E)).toNatClampNeg (l / 10 * (10 - hx_il E (hx_ob E s o (hx_P E)).toNatClampNeg)))
theorem hx_olS (E : hx_Env) (s : hx_St) (m : Nat) (o : Int32) (l : Nat) (sh : Nat → Nat) : hx_ol E s (m + 1) o l sh = if o = 0 then (l, sh) else hx_ol E s m (hx_cut o (hx_ob E s o (hx_P E)).toNatClampNeg) (l / 10 * hx_il E (hx_ob E s o (hx_P E)).toNatClampNeg) (hx_u64 sh (hx_ob E s o (hx_P E)).toNatClampNeg (l / 10 * (10 - hx_il E (hx_ob E s o (hx_P E)).toNatClampNeg))) := rfl
def hx_obt (P : Nat) (o : Int32) : Prop := ∀ i, i < 32 → bt o i = true → i < P
theorem hx_obp {E : hx_Env} (s : hx_St) {o : Int32} (ho : hx_obt (hx_P E) o) (h0 : o ≠ 0) : ∃ p, p < hx_P E ∧ hx_ob E s o (hx_P E) = nI p ∧ bt o p = true := by
  rcases hx_obR E s o (hx_P E) with ⟨_, b⟩ | h
  · exfalso
    apply h0
    apply b_ext
    intro i hi
    rw [b_0]
    cases c : bt o i
    · rfl
    · rw [b i (ho i hi c)] at c
      cases c
  · exact h
theorem hx_cutP {P : Nat} {o : Int32} (ho : hx_obt P o) {p : Nat} (hp : p < 8) : hx_obt P (hx_cut o p) := by
  intro i hi h
  rw [hx_cutT o hp hi, Bool.and_eq_true] at h
  exact ho i hi h.1
theorem hx_olle {E : hx_Env} (hE : hx_ok E) (s : hx_St) : ∀ (m : Nat) (o : Int32) (l : Nat) (sh : Nat → Nat), hx_obt (hx_P E) o → l ≤ 100000000 → (∀ i, sh i ≤ 100000000) → (hx_ol E s m o l sh).1 ≤ 100000000 ∧ (∀ i, (hx_ol E s m o l sh).2 i ≤ 100000000) ∧ (∀ i, (hx_ol E s m o l sh).2 i ≠ sh i → i < 8 ∧ bt o i = true)
  | 0, o, l, sh, _, hl, hs => ⟨hl, hs, fun i h => absurd rfl h⟩
  | m + 1, o, l, sh, ho, hl, hs => by
    have h8 := hE.1
    rw [hx_olS]
    by_cases c : o = 0
    · rw [if_pos c]
      exact ⟨hl, hs, fun i h => absurd rfl h⟩
    · rw [if_neg c]
      obtain ⟨p, hp, e, hb⟩ := hx_obp s ho c
      rw [e, nI_clamp (by omega)]
      have i9 := (hx_ilE hE hp).2
      have m1 : l / 10 * hx_il E p ≤ l / 10 * 10 := Nat.mul_le_mul_left _ (by omega)
      have m2 : l / 10 * (10 - hx_il E p) ≤ l / 10 * 10 := Nat.mul_le_mul_left _ (by omega)
      obtain ⟨a1, a2, a3⟩ := hx_olle hE s m (hx_cut o p) (l / 10 * hx_il E p) (hx_u64 sh p (l / 10 * (10 - hx_il E p))) (hx_cutP ho (by omega)) (by omega) (by
        intro i
        unfold hx_u64
        split
        · omega
        · exact hs i)
      refine ⟨a1, a2, ?_⟩
      intro i h
      by_cases z : i = p
      · rw [z]
        exact ⟨by omega, hb⟩
      · have := a3 i (by unfold hx_u64; rw [if_neg z]; exact h)
        refine ⟨this.1, ?_⟩
        have y := this.2
        rw [hx_cutT o (by omega) (by omega), Bool.and_eq_true] at y
        exact y.1
def hx_opn (E : hx_Env) (s : hx_St) (p : Nat) : Bool := !decide (nI p = s 17) && (bt (s 16) p && (decide (hx_bar E s < hx_sw E (s p)) && decide (hx_ww E s p ≠ 0)))
def hx_opb (E : hx_Env) (s : hx_St) : Int32 := hx_bits (hx_opn E s) (hx_P E)
theorem hx_opo {E : hx_Env} (h8 : hx_P E ≤ 8) (s : hx_St) : hx_obt (hx_P E) (hx_opb E s) := by
  intro i hi h
  unfold hx_opb at h
  rw [hx_bitsT _ hi _ (by omega), Bool.and_eq_true] at h
  exact of_decide_eq_true h.1
def hx_or (E : hx_Env) (s : hx_St) : Nat × (Nat → Nat) := hx_ol E s 8 (hx_opb E s) 100000000 (fun _ => 0)
def hx_wi (s : hx_St) : Nat := if s 17 < 0 then 8 else (s 17).toNatClampNeg
/-- how likely, of 100000000: people, and at 8 nobody -/
def hx_od (E : hx_Env) (s : hx_St) (i : Nat) : Nat := if i = hx_wi s then (hx_or E s).2 i + (hx_or E s).1 else (hx_or E s).2 i
theorem hx_odle {E : hx_Env} (hE : hx_ok E) (s : hx_St) (i : Nat) : hx_od E s i ≤ 200000000 := by
  obtain ⟨a, b, _⟩ := hx_olle hE s 8 (hx_opb E s) 100000000 (fun _ => 0) (hx_opo hE.1 s) (Nat.le_refl _) (fun _ => Nat.zero_le _)
  have := b i
  unfold hx_od hx_or
  split <;> omega
theorem hx_odp {E : hx_Env} (hE : hx_ok E) (s : hx_St) {i : Nat} (hi : i ≠ hx_wi s) (h : 0 < hx_od E s i) : i < hx_P E ∧ hx_opn E s i = true := by
  obtain ⟨_, _, c⟩ := hx_olle hE s 8 (hx_opb E s) 100000000 (fun _ => 0) (hx_opo hE.1 s) (Nat.le_refl _) (fun _ => Nat.zero_le _)
  unfold hx_od at h
  rw [if_neg hi] at h
  have := c i (by unfold hx_or at h; omega)
  have h8 := hE.1
  unfold hx_opb at this
  rw [hx_bitsT _ (by omega) _ (by omega), Bool.and_eq_true] at this
  exact ⟨of_decide_eq_true this.2.1, this.2.2⟩
