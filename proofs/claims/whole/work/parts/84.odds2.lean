/-! ===== E: shares, in the class and in the reference ===== -/
theorem hx_hwL (d : Nat) {E : hx_Env} {W : Nat} {s : hx_St} (ht : hx_tw (hx_P E) W s) {j : Nat} : ∀ (m k : Nat) (μ : hs_M), k + m = hx_P E → hx_EC μ E → hx_SC μ j s → ∃ μ', he_Office_heavierWho_11 (d + 2) j (hx_bits (hx_opn E s) k) (hx_bar E s) (nI k) μ = some (some (vI (hx_opb E s)), μ') ∧ hx_fr hx_xW μ μ'
  | 0, k, μ, hk, hE, hs => by
    have h8 := hE.1.1
    rw [hq_Office_heavierWho_11, hx_eP hE, if_neg (nI_nlt (by omega) (by omega)), show k = hx_P E from hk]
    exact ⟨μ, rfl, hx_rf _ _⟩
  | m + 1, k, μ, hk, hE, hs => by
    have h8 := hE.1.1
    have go : ∀ μ1, hx_fr hx_xW μ μ1 → ∃ μ', he_Office_heavierWho_11 (d + 2) j (hx_bits (hx_opn E s) (k + 1)) (hx_bar E s) (nI (k + 1)) μ1 = some (some (vI (hx_opb E s)), μ') ∧ hx_fr hx_xW μ μ' := by
      intro μ1 f1
      obtain ⟨μ2, e2, f2⟩ := hx_hwL d ht (j := j) m (k + 1) μ1 (by omega) (hx_ECW f1 hE) (hx_SCW f1 hs)
      exact ⟨μ2, e2, hx_tr f1 f2⟩
    rw [hx_bitsS] at go
    have no : ∀ μ1, hx_fr hx_xW μ μ1 → hx_opn E s k = false → ∃ μ', he_Office_heavierWho_83 (d + 2) j (hx_bits (hx_opn E s) k) (hx_bar E s) (nI k) μ1 = some (some (vI (hx_opb E s)), μ') ∧ hx_fr hx_xW μ μ' := by
      intro μ1 f1 z
      have g := go μ1 f1
      rw [z, if_neg (by decide)] at g
      rw [hq_Office_heavierWho_83, nI_1]
      exact g
    rw [hq_Office_heavierWho_11, hx_eP hE, if_pos (nI_lt (by omega) (by omega)), hs.2.2.2.1]
    by_cases c1 : nI k = s 17
    · rw [if_pos c1]
      apply no μ (hx_rf _ _)
      unfold hx_opn
      rw [decide_eq_true c1]
      rfl
    rw [if_neg c1, hx_lives _ _ (by omega), hx_bI, hx_tn0, hs.2.2.1]
    by_cases c2 : bt (s 16) k = true
    rotate_left
    · rw [if_neg c2]
      apply no μ (hx_rf _ _)
      rw [Bool.not_eq_true] at c2
      unfold hx_opn
      rw [c2, Bool.false_and, Bool.and_false]
    rw [if_pos c2, if_pos (hx_in (by omega) (by omega)), nI_clamp (by omega), hs.1 k (by omega), hx_eS hE, hx_bI]
    by_cases c3 : hx_bar E s < hx_sw E (s k)
    rotate_left
    · rw [if_neg c3]
      apply no μ (hx_rf _ _)
      unfold hx_opn
      rw [decide_eq_false c3, Bool.false_and, Bool.and_false, Bool.and_false]
    obtain ⟨μ1, e1, f1⟩ := hx_value d hE ht hs (p := k) (by omega)
    rw [if_pos c3, e1, hx_bI]
    by_cases c4 : hx_ww E s k = 0
    · rw [if_pos c4]
      apply no μ1 f1
      unfold hx_opn
      rw [show decide (hx_ww E s k ≠ 0) = false from decide_eq_false (fun x => x c4), Bool.and_false, Bool.and_false, Bool.and_false]
    · have g := go μ1 f1
      have z : hx_opn E s k = true := by
        unfold hx_opn
        rw [decide_eq_false c1, c2, decide_eq_true c3, decide_eq_true c4]
        rfl
      rw [if_pos z] at g
      rw [if_neg c4, hq_Office_heavierWho_83, nI_1]
      exact g
def hx_sC (μ : hs_M) (κ : Nat) (sh : Nat → Nat) : Prop := μ.2 κ 0 0 = 0 ∧ ∀ p, p < 8 → μ.2 κ 0 (1 + p) = lN (sh p)
theorem hx_shZ (d : Nat) {j κ : Nat} (hκ : κ = 37 ∨ κ = 38) (o : Int32) {μ0 : hs_M} : ∀ (m k : Nat) (μ : hs_M), k + m = 9 → hx_fr (fun a _ _ => a = κ) μ0 μ → (∀ i, i < k → μ.2 κ 0 i = 0) → ∃ μ', he_Office_shares_9 d j κ o (nI k) μ = he_Office_shares_35 d j κ o (lN 100000000) (nI 0) μ' ∧ hx_fr (fun a _ _ => a = κ) μ0 μ' ∧ hx_sC μ' κ (fun _ => 0)
  | 0, k, μ, hk, f, h => by
    rw [hq_Office_shares_9 _ _ _ _ _ _ hκ, if_neg (show ¬ nI k < (9 : Int32) from nI_nlt (b := 9) (by omega) (by omega))]
    exact ⟨μ, rfl, f, h 0 (by omega), fun p hp => h (1 + p) (by omega)⟩
  | m + 1, k, μ, hk, f, h => by
    rw [hq_Office_shares_9 _ _ _ _ _ _ hκ, if_pos (show nI k < (9 : Int32) from nI_lt (b := 9) (by omega) (by omega)), if_pos (hx_in (by omega) (by omega)), nI_clamp (by omega), nI_1]
    apply hx_shZ d hκ o m (k + 1) _ (by omega) (hx_wl f _ rfl)
    intro i hi
    rw [hx_rl]
    by_cases c : i = k
    · rw [if_pos ⟨rfl, c, rfl⟩]
    · rw [if_neg (by omega), h i (by omega)]
theorem hx_part {l i : Nat} (hl : l ≤ 100000000) : lN l / 10 * lN i = lN (l / 10 * i) := by
  rw [show (10 : Int64) = lN 10 from rfl, pk_lDiv (by omega) (by omega) (by omega), lN_mul]
theorem hx_shL (d : Nat) {j κ : Nat} (hκ : κ = 37 ∨ κ = 38) {E : hx_Env} {s : hx_St} {μ0 : hs_M} (hE : hx_EC μ0 E) (hs : hx_SC μ0 j s) : ∀ (m k : Nat) (o : Int32) (l : Nat) (sh : Nat → Nat) (μ : hs_M), k + m = 8 → hx_obt (hx_P E) o → l ≤ 100000000 → hx_fr (fun a _ _ => a = κ) μ0 μ → hx_sC μ κ sh → ∃ μ', he_Office_shares_35 (d + 2) j κ o (lN l) (nI k) μ = he_Office_shares_112 (d + 2) j κ (lN (hx_ol E s m o l sh).1) μ' ∧ hx_fr (fun a _ _ => a = κ) μ0 μ' ∧ hx_sC μ' κ (hx_ol E s m o l sh).2
  | 0, k, o, l, sh, μ, hk, ho, hl, f, h => by
    rw [hq_Office_shares_35 _ _ _ _ _ _ _ hκ, if_neg (show ¬ nI k < (8 : Int32) from nI_nlt (b := 8) (by omega) (by omega))]
    exact ⟨μ, rfl, f, h⟩
  | m + 1, k, o, l, sh, μ, hk, ho, hl, f, h => by
    have h8 := hE.1.1
    rw [hq_Office_shares_35 _ _ _ _ _ _ _ hκ, if_pos (show nI k < (8 : Int32) from nI_lt (b := 8) (by omega) (by omega)), hx_olS]
    by_cases c : o = 0
    · rw [if_pos c, if_pos c]
      exact ⟨μ, rfl, f, h⟩
    · rw [if_neg c, if_neg c]
      obtain ⟨p, hp, e, hb⟩ := hx_obp s ho c
      obtain ⟨i1, i9⟩ := hx_ilE hE.1 hp
      have E1 : hx_EC μ E := hx_ECf f (by intro κ' i h x; unfold hx_cF at h; omega) hE
      have S1 : hx_SC μ j s := hx_SCf f (by intro κ' i h x; omega) hs
      have m1 : l / 10 * hx_il E p ≤ l / 10 * 10 := Nat.mul_le_mul_left _ (by omega)
      rw [hx_ho d E1 S1 (fun i h1 h2 => by cases z : bt o i; rfl; exact absurd (ho i (by omega) z) (by omega)), hx_bI, e, show hx_hb1 (nI p) = nI p from if_neg (nI_pos (by omega)), if_pos (hx_in (by omega) (by omega)), show (1 : Int32) + nI p = nI (1 + p) from nI_add 1 p, if_pos (hx_in (by omega) (by omega)), nI_clamp (n := p) (by omega), nI_clamp (n := 1 + p) (by omega), f.1 16 0 p (by omega), hE.2.2.2.1 p hp, i1, nI_l (by omega), show (10 : Int32) - nI (hx_il E p) = nI (10 - hx_il E p) from pk_sub (a := 10) (by omega), nI_l (by omega), hx_part hl, hx_part hl, nI_1]
      apply hx_shL d hκ hE hs m (k + 1) (hx_cut o p) _ _ _ (by omega) (hx_cutP ho (by omega)) (by omega) (hx_wl f _ rfl)
      refine ⟨?_, ?_⟩
      · rw [hx_rl, if_neg (by omega), h.1]
      · intro q hq
        rw [hx_rl]
        unfold hx_u64
        by_cases z : q = p
        · rw [if_pos ⟨rfl, by omega, rfl⟩, if_pos z]
        · rw [if_neg (by omega), if_neg z, h.2 q hq]
def hx_oC (μ : hs_M) (κ : Nat) (f : Nat → Nat) : Prop := μ.2 κ 0 0 = lN (f 8) ∧ ∀ p, p < 8 → μ.2 κ 0 (1 + p) = lN (f p)
def hx_oR (μ : hs_M) (κ : Nat) (f : Nat → Nat) : Prop := ∀ i, i < 9 → μ.2 κ 0 i = lN (f i)
theorem hx_or8 {E : hx_Env} (hE : hx_ok E) (s : hx_St) : (hx_or E s).2 8 = 0 := by
  obtain ⟨_, _, c⟩ := hx_olle hE s 8 (hx_opb E s) 100000000 (fun _ => 0) (hx_opo hE.1 s) (Nat.le_refl _) (fun _ => Nat.zero_le _)
  by_cases z : (hx_or E s).2 8 = 0
  · exact z
  · have := (c 8 z).1
    omega
theorem hx_shares (d : Nat) {κ : Nat} (hκ : κ = 37 ∨ κ = 38) {μ : hs_M} {E : hx_Env} (hE : hx_EC μ E) {W : Nat} {s : hx_St} (ht : hx_tw (hx_P E) W s) {j : Nat} (hs : hx_SC μ j s) : ∃ μ', hc_Office_shares (d + 4) j κ μ = some (none, μ') ∧ hx_fr (fun a _ _ => a = 23 ∨ a = κ) μ μ' ∧ hx_oC μ' κ (hx_od E s) := by
  have h8 := hE.1.1
  obtain ⟨μ1, e1, f1⟩ := hx_hwL d ht (j := j) (hx_P E) 0 μ (by omega) hE hs
  have E1 := hx_ECW f1 hE
  have S1 := hx_SCW f1 hs
  obtain ⟨μ2, e2, f2, z2⟩ := hx_shZ (d + 3) (j := j) hκ (hx_opb E s) 9 0 μ1 (by omega) (hx_rf _ _) (fun i hi => absurd hi (by omega))
  have E2 : hx_EC μ2 E := hx_ECf f2 (by intro κ' i h x; unfold hx_cF at h; omega) E1
  have S2 : hx_SC μ2 j s := hx_SCf f2 (by intro κ' i h x; omega) S1
  obtain ⟨μ3, e3, f3, z3⟩ := hx_shL (d + 1) hκ E2 S2 8 0 (hx_opb E s) 100000000 (fun _ => 0) μ2 (by omega) (hx_opo h8 s) (Nat.le_refl _) (hx_rf _ _) z2
  have f13 : hx_fr (fun a _ _ => a = 23 ∨ a = κ) μ μ3 := hx_tr (hx_tr (hx_mo (fun _ _ _ x => Or.inl x) f1) (hx_mo (fun _ _ _ x => Or.inr x) f2)) (hx_mo (fun _ _ _ x => Or.inr x) f3)
  have e17 : μ3.1 6 j 1 = s 17 := by
    rw [f3.1 6 j 1 (by omega), f2.1 6 j 1 (by omega), S1.2.2.2.1]
  have o8 := hx_or8 hE.1 s
  rw [hq_Office_shares _ _ _ _ hκ, hq_Office_heavierWho, hx_bars _ hE ht hs, hx_bI, show he_Office_heavierWho_11 (d + 2) j 0 (hx_bar E s) 0 μ = he_Office_heavierWho_11 (d + 2) j (hx_bits (hx_opn E s) 0) (hx_bar E s) (nI 0) μ from rfl, e1, hx_bI, show he_Office_shares_9 (d + 3) j κ (hx_opb E s) 0 μ1 = he_Office_shares_9 (d + 3) j κ (hx_opb E s) (nI 0) μ1 from rfl, e2, e3, hq_Office_shares_112 _ _ _ _ _ hκ, e17]
  have ew : (hx_ol E s 8 (hx_opb E s) 100000000 (fun _ => 0)) = hx_or E s := rfl
  rw [ew] at z3 ⊢
  rcases hx_who ht h8 with ⟨w, e⟩ | ⟨w, q, hq, e⟩
  · have ewi : hx_wi s = 8 := if_pos w
    rw [e, show (1 : Int32) + -1 = nI 0 from by decide, if_pos (hx_in (by omega) (by omega)), if_pos (hx_in (by omega) (by omega)), nI_clamp (by omega)]
    refine ⟨_, rfl, hx_wl f13 _ (Or.inr rfl), ?_, ?_⟩
    · rw [hx_rl, if_pos ⟨rfl, rfl, rfl⟩, z3.1]
      unfold hx_od
      rw [if_pos ewi.symm, o8, Nat.zero_add, Int64.zero_add]
    · intro p hp
      rw [hx_rl, if_neg (by omega), z3.2 p hp]
      unfold hx_od
      rw [if_neg (by omega)]
  · have ewi : hx_wi s = q := by
      unfold hx_wi
      rw [if_neg w, e, nI_clamp (by omega)]
    rw [e, show (1 : Int32) + nI q = nI (1 + q) from nI_add 1 q, if_pos (hx_in (by omega) (by omega)), if_pos (hx_in (by omega) (by omega)), nI_clamp (by omega)]
    refine ⟨_, rfl, hx_wl f13 _ (Or.inr rfl), ?_, ?_⟩
    · rw [hx_rl, if_neg (by omega), z3.1]
      unfold hx_od
      rw [if_neg (by omega), o8]
      rfl
    · intro p hp
      rw [hx_rl]
      unfold hx_od
      by_cases z : p = q
      · rw [if_pos ⟨rfl, by omega, rfl⟩, z3.2 q (by omega), lN_add, if_pos (by omega), z]
      · rw [if_neg (by omega), if_neg (by omega), z3.2 p hp]
/-! the reference -/
theorem hx_odZ (d : Nat) {κ1 κ2 : Nat} (hκ1 : κ1 = 45 ∨ κ1 = 65) (hκ2 : κ2 = 63 ∨ κ2 = 64) {μ0 : hs_M} : ∀ (m k : Nat) (μ : hs_M), k + m = 9 → hx_fr (fun a _ _ => a = κ2) μ0 μ → (∀ i, i < k → μ.2 κ2 0 i = 0) → ∃ μ', he_M_oddsOf_2 d κ1 κ2 (nI k) μ = hs_bI (hc_M_willing d κ1 μ') (fun r1 μ1 => he_M_oddsOf_41 d κ1 κ2 r1 (μ1.1 κ1 0 17) (100000000 : Int64) 0 0 μ1) ∧ hx_fr (fun a _ _ => a = κ2) μ0 μ' ∧ hx_oR μ' κ2 (fun _ => 0)
  | 0, k, μ, hk, f, h => by
    rw [hq_M_oddsOf_2 _ _ _ _ _ hκ1 hκ2, if_pos (show (8 : Int32) < nI k from nI_lt (a := 8) (by omega) (by omega))]
    exact ⟨μ, rfl, f, fun i hi => h i (by omega)⟩
  | m + 1, k, μ, hk, f, h => by
    rw [hq_M_oddsOf_2 _ _ _ _ _ hκ1 hκ2, if_neg (show ¬ (8 : Int32) < nI k from nI_nlt (a := 8) (by omega) (by omega)), if_pos (hx_in (by omega) (by omega)), nI_clamp (by omega), nI_1]
    apply hx_odZ d hκ1 hκ2 m (k + 1) _ (by omega) (hx_wl f _ rfl)
    intro i hi
    rw [hx_rl]
    by_cases c : i = k
    · rw [if_pos ⟨rfl, c, rfl⟩]
    · rw [if_neg (by omega), h i (by omega)]
theorem hx_opR (d : Nat) {κ1 κ2 : Nat} (hκ1 : κ1 = 45 ∨ κ1 = 65) (hκ2 : κ2 = 63 ∨ κ2 = 64) {μ : hs_M} {E : hx_Env} (hE : hx_ER μ E) {W : Nat} {s : hx_St} (ht : hx_tw (hx_P E) W s) (hs : hx_SR μ κ1 0 s) (x5 : Int64) : ∀ (m k : Nat), k + m = hx_P E → he_M_oddsOf_41 (d + 2) κ1 κ2 (hx_wb E s (hx_P E)) (s 17) x5 (hx_bits (hx_opn E s) k) (nI k) μ = he_M_oddsOf_121 (d + 2) κ1 κ2 (s 17) x5 (hx_opb E s) μ
  | 0, k, hk => by
    have h8 := hE.1.1
    rw [hq_M_oddsOf_41 _ _ _ _ _ _ _ _ _ hκ1 hκ2, hx_rP hE, if_neg (nI_nlt (by omega) (by omega)), show k = hx_P E from hk]
    rfl
  | m + 1, k, hk => by
    have h8 := hE.1.1
    have ih := hx_opR d hκ1 hκ2 hE ht hs x5 m (k + 1) (by omega)
    rw [hx_bitsS] at ih
    have ew := hx_wbt E s (i := k) (by omega) (hx_P E) (by omega)
    rw [decide_eq_true (by omega), Bool.true_and] at ew
    have j74 : hx_bar E s < hx_sw E (s k) → he_M_oddsOf_74 (d + 2) κ1 κ2 (hx_wb E s (hx_P E)) (s 17) x5 (hx_bits (hx_opn E s) k) (nI k) μ = he_M_oddsOf_121 (d + 2) κ1 κ2 (s 17) x5 (hx_opb E s) μ := by
      intro hb
      rw [hq_M_oddsOf_74 _ _ _ _ _ _ _ _ _ hκ1 hκ2, hx_has _ _ (by omega), hx_bI, hx_tn0, ew, nI_1, Int32.or_zero, ← ih]
      unfold hx_opn
      rw [decide_eq_true hb, Bool.true_and]
      by_cases c1 : (bt (s 16) k && decide (hx_ww E s k ≠ 0)) = true
      · rw [if_pos c1]
        by_cases c2 : nI k = s 17
        · rw [if_pos c2, decide_eq_true c2, Bool.not_true, Bool.false_and, if_neg (by decide)]
        · rw [if_neg c2, decide_eq_false c2, Bool.not_false, Bool.true_and, if_pos c1]
      · rw [if_neg c1]
        rw [Bool.not_eq_true] at c1
        rw [c1, Bool.and_false, if_neg (by decide)]
    rw [hq_M_oddsOf_41 _ _ _ _ _ _ _ _ _ hκ1 hκ2, hx_rP hE, if_pos (nI_lt (by omega) (by omega))]
    rcases hx_who ht h8 with ⟨w, e⟩ | ⟨w, q, hq, e⟩
    · rw [if_pos w]
      apply j74
      unfold hx_bar
      rw [if_pos w]
      exact hx_sw1 hE.1 _
    · have eb : hx_bar E s = hx_sw E (s q) := by
        unfold hx_bar
        rw [if_neg w, e, nI_clamp (by omega)]
      have i17 : hs_in (s 17) 117 = true := by
        rw [e]
        exact hx_in (by omega) (by omega)
      have c17 : (s 17).toNatClampNeg = q := by rw [e, nI_clamp (by omega)]
      rw [if_neg w, if_pos (hx_in (by omega) (by omega)), nI_clamp (by omega), hx_SR0 hs (by omega), hx_rS hE, hx_bI, if_pos i17, c17, hx_SR0 hs (by omega), hx_rS hE, hx_bI]
      by_cases c : hx_sw E (s q) < hx_sw E (s k)
      · rw [if_pos c]
        exact j74 (by rw [eb]; exact c)
      · rw [if_neg c, hx_has _ _ (by omega), hx_bI, hx_tn0, nI_1, Int32.or_zero, ite_self, ite_self, ← ih]
        unfold hx_opn
        rw [eb, decide_eq_false c, Bool.false_and, Bool.and_false, Bool.and_false, if_neg (by decide)]
/-- how many bits -/
def hx_cb (o : Int32) : Nat → Nat
  | 0 => 0
  | k + 1 => hx_cb o k + (if bt o k = true then 1 else 0)
theorem hx_cbS (o : Int32) (k : Nat) : hx_cb o (k + 1) = hx_cb o k + (if bt o k = true then 1 else 0) := rfl
theorem hx_cble (o : Int32) : ∀ k, hx_cb o k ≤ k
  | 0 => Nat.le_refl 0
  | k + 1 => by
    have := hx_cble o k
    rw [hx_cbS]
    split <;> omega
theorem hx_cbc (o : Int32) {p : Nat} (hp : p < 8) : ∀ k, k ≤ 8 → hx_cb (hx_cut o p) k + (if p < k ∧ bt o p = true then 1 else 0) = hx_cb o k
  | 0, _ => by
    rw [if_neg (by omega)]
    rfl
  | k + 1, h => by
    have ih := hx_cbc o hp k (by omega)
    rw [hx_cbS, hx_cbS, hx_cutT o hp (by omega)]
    by_cases z : k = p
    · subst z
      rw [if_neg (by omega)] at ih
      rw [decide_eq_true rfl, Bool.not_true, Bool.and_false, if_neg (by decide)]
      by_cases c : bt o k = true
      · rw [if_pos ⟨by omega, c⟩, if_pos c]
        omega
      · rw [if_neg (by rintro ⟨_, x⟩; exact c x), if_neg c]
        omega
    · rw [decide_eq_false z, Bool.not_false, Bool.and_true]
      have e : (if p < k + 1 ∧ bt o p = true then 1 else 0) = (if p < k ∧ bt o p = true then 1 else 0) := by
        by_cases c : p < k ∧ bt o p = true
        · rw [if_pos c, if_pos ⟨by omega, c.2⟩]
        · rw [if_neg c, if_neg (by rintro ⟨x, y⟩; exact c ⟨by omega, y⟩)]
      rw [e]
      omega
theorem hx_cb0 {o : Int32} : ∀ k, hx_cb o k = 0 → ∀ i, i < k → bt o i = false
  | 0, _, i, h => absurd h (by omega)
  | k + 1, h, i, hi => by
    rw [hx_cbS] at h
    by_cases c : bt o k = true
    · rw [if_pos c] at h
      omega
    · rw [if_neg c] at h
      by_cases z : i = k
      · rw [z]
        rw [Bool.not_eq_true] at c
        exact c
      · exact hx_cb0 k (by omega) i (by omega)
theorem hx_oz {P : Nat} (h8 : P ≤ 8) {o : Int32} (ho : hx_obt P o) (h : hx_cb o 8 = 0) : o = 0 := by
  apply b_ext
  intro i hi
  rw [b_0]
  cases c : bt o i
  · rfl
  · have := ho i hi c
    rw [hx_cb0 8 h i (by omega)] at c
    cases c
theorem hx_odL (d : Nat) {κ1 κ2 : Nat} (hκ1 : κ1 = 45 ∨ κ1 = 65) (hκ2 : κ2 = 63 ∨ κ2 = 64) {E : hx_Env} {W : Nat} {s : hx_St} (ht : hx_tw (hx_P E) W s) {μ0 : hs_M} (hE : hx_ER μ0 E) (hs : hx_SR μ0 κ1 0 s) : ∀ (m : Nat) (o : Int32) (l : Nat) (sh : Nat → Nat) (μ : hs_M), hx_cb o 8 ≤ m → hx_obt (hx_P E) o → l ≤ 100000000 → hx_fr (fun a _ _ => a = κ2) μ0 μ → hx_oR μ κ2 sh → ∃ μ', he_M_oddsOf_121 (d + 2) κ1 κ2 (s 17) (lN l) o μ = some (none, μ') ∧ hx_fr (fun a _ _ => a = κ2) μ0 μ' ∧ hx_oR μ' κ2 (fun i => if i = hx_wi s then (hx_ol E s m o l sh).2 i + (hx_ol E s m o l sh).1 else (hx_ol E s m o l sh).2 i) := by
  have h8 := hE.1.1
  have fin : ∀ (l : Nat) (sh : Nat → Nat) (μ : hs_M), hx_fr (fun a _ _ => a = κ2) μ0 μ → hx_oR μ κ2 sh → ∃ μ', he_M_oddsOf_121 (d + 2) κ1 κ2 (s 17) (lN l) 0 μ = some (none, μ') ∧ hx_fr (fun a _ _ => a = κ2) μ0 μ' ∧ hx_oR μ' κ2 (fun i => if i = hx_wi s then sh i + l else sh i) := by
    intro l sh μ f h
    rw [hq_M_oddsOf_121 _ _ _ _ _ _ _ hκ1 hκ2, if_pos rfl]
    rcases hx_who ht h8 with ⟨w, e⟩ | ⟨w, q, hq, e⟩
    · have ewi : hx_wi s = 8 := if_pos w
      rw [if_pos w]
      refine ⟨_, rfl, hx_wl f _ rfl, ?_⟩
      intro i hi
      rw [hx_rl, ewi]
      dsimp only
      by_cases z : i = 8
      · rw [if_pos ⟨rfl, z, rfl⟩, if_pos z, h 8 (by omega), lN_add, z]
      · rw [if_neg (by omega), if_neg z, h i hi]
    · have ewi : hx_wi s = q := by
        unfold hx_wi
        rw [if_neg w, e, nI_clamp (by omega)]
      rw [if_neg w, e, if_pos (hx_in (by omega) (by omega)), if_pos (hx_in (by omega) (by omega)), nI_clamp (by omega)]
      refine ⟨_, rfl, hx_wl f _ rfl, ?_⟩
      intro i hi
      rw [hx_rl, ewi]
      dsimp only
      by_cases z : i = q
      · rw [if_pos ⟨rfl, z, rfl⟩, if_pos z, h q (by omega), lN_add, z]
      · rw [if_neg (by omega), if_neg z, h i hi]
  intro m
  induction m with
  | zero =>
    intro o l sh μ hm ho hl f h
    rw [hx_oz h8 ho (by omega)]
    exact fin l sh μ f h
  | succ m ih =>
    intro o l sh μ hm ho hl f h
    rw [hx_olS]
    by_cases c : o = 0
    · rw [if_pos c, c]
      exact fin l sh μ f h
    · rw [if_neg c]
      obtain ⟨p, hp, e, hb⟩ := hx_obp s ho c
      obtain ⟨i1, i9⟩ := hx_ilE hE.1 hp
      have E1 : hx_ER μ E := hx_ERf f (by intro κ' i h x; unfold hx_rF at h; omega) hE
      have S1 : hx_SR μ κ1 0 s := hx_SRf f (by intro i h x; omega) hs
      have m1 : l / 10 * hx_il E p ≤ l / 10 * 10 := Nat.mul_le_mul_left _ (by omega)
      have cc := hx_cbc o (p := p) (by omega) 8 (Nat.le_refl 8)
      rw [if_pos ⟨by omega, hb⟩] at cc
      rw [hq_M_oddsOf_121 _ _ _ _ _ _ _ hκ1 hκ2, if_neg c, show he_M_oddsOf_132 (d + 2) κ1 κ2 (s 17) (lN l) o (-1) 0 μ = he_M_oddsOf_132 (d + 2) κ1 κ2 (s 17) (lN l) o (hx_ob E s o 0) (nI 0) μ from rfl, hx_obRL d hκ1 hκ2 E1 S1 _ _ _ (hx_P E) 0 (by omega), hq_M_oddsOf_132 _ _ _ _ _ _ _ _ _ hκ1 hκ2, hx_rP E1, if_neg (nI_nlt (by omega) (by omega)), e, if_pos (hx_in (by omega) (by omega)), if_pos (hx_in (by omega) (by omega)), if_pos (hx_in (by omega) (by omega)), nI_clamp (by omega), E1.2.2.2.1 p hp, i1, nI_l (by omega), show (10 : Int32) - nI (hx_il E p) = nI (10 - hx_il E p) from pk_sub (a := 10) (by omega), nI_l (by omega), hx_part hl, hx_part hl]
      apply ih (hx_cut o p) _ _ _ (by omega) (hx_cutP ho (by omega)) (by omega) (hx_wl f _ rfl)
      intro q hq
      rw [hx_rl]
      unfold hx_u64
      by_cases z : q = p
      · rw [if_pos ⟨rfl, by omega, rfl⟩, if_pos z]
      · rw [if_neg (by omega), if_neg z, h q hq]
theorem hx_oddsM (d : Nat) {κ1 κ2 : Nat} (hκ1 : κ1 = 45 ∨ κ1 = 65) (hκ2 : κ2 = 63 ∨ κ2 = 64) {μ : hs_M} {E : hx_Env} (hE : hx_ER μ E) {W : Nat} {s : hx_St} (ht : hx_tw (hx_P E) W s) (hs : hx_SR μ κ1 0 s) : ∃ μ', hc_M_oddsOf (d + 6) κ1 κ2 μ = some (none, μ') ∧ hx_fr (fun a _ _ => a = 54 ∨ a = κ2) μ μ' ∧ hx_oR μ' κ2 (hx_od E s) := by
  have h8 := hE.1.1
  have hK : hx_K3 κ1 := by unfold hx_K3; omega
  obtain ⟨μ1, e1, f1, z1⟩ := hx_odZ (d + 5) hκ1 hκ2 9 0 μ (by omega) (hx_rf _ _) (fun i hi => absurd hi (by omega))
  have E1 : hx_ER μ1 E := hx_ERf f1 (by intro κ' i h x; unfold hx_rF at h; omega) hE
  have S1 : hx_SR μ1 κ1 0 s := hx_SRf f1 (by intro i h x; omega) hs
  obtain ⟨μ2, e2, f2⟩ := hx_willing d hK E1 ht S1
  have E2 := hx_ERV f2 E1
  have S2 := hx_SRV f2 (κ := κ1) (by omega) S1
  obtain ⟨μ3, e3, f3, z3⟩ := hx_odL (d + 3) hκ1 hκ2 ht E2 S2 8 (hx_opb E s) 100000000 (fun _ => 0) μ2 (hx_cble _ 8) (hx_opo h8 s) (Nat.le_refl _) (hx_rf _ _) (fun i hi => by rw [f2.2 κ2 0 i (by unfold hx_xV; omega)]; exact z1 i hi)
  rw [hq_M_oddsOf _ _ _ _ hκ1 hκ2, show he_M_oddsOf_2 (d + 5) κ1 κ2 0 μ = he_M_oddsOf_2 (d + 5) κ1 κ2 (nI 0) μ from rfl, e1, e2, hx_bI, hx_SR0 S2 (by omega), show he_M_oddsOf_41 (d + 5) κ1 κ2 (hx_wb E s (hx_P E)) (s 17) 100000000 0 0 μ2 = he_M_oddsOf_41 (d + 5) κ1 κ2 (hx_wb E s (hx_P E)) (s 17) (lN 100000000) (hx_bits (hx_opn E s) 0) (nI 0) μ2 from rfl, hx_opR (d + 3) hκ1 hκ2 E2 ht S2 _ (hx_P E) 0 (by omega), e3]
  exact ⟨μ3, rfl, hx_tr (hx_tr (hx_mo (fun _ _ _ x => Or.inr x) f1) (hx_mo (fun _ _ _ x => Or.inl x) f2)) (hx_mo (fun _ _ _ x => Or.inr x) f3), z3⟩
