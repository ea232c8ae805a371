/-! ===== E: by turns ===== -/
/-- bits of those below n for whom f -/
def hx_bits (f : Nat → Bool) : Nat → Int32
  | 0 => 0
  | n + 1 => if f n = true then hx_bits f n ||| ((1 : Int32) <<< (nI n &&& 31)) else hx_bits f n
theorem hx_bitsS (f : Nat → Bool) (n : Nat) : hx_bits f (n + 1) = if f n = true then hx_bits f n ||| ((1 : Int32) <<< (nI n &&& 31)) else hx_bits f n := rfl
theorem hx_bitsT (f : Nat → Bool) {i : Nat} (hi : i < 32) : ∀ n, n ≤ 32 → bt (hx_bits f n) i = (decide (i < n) && f i)
  | 0, _ => by
    rw [decide_eq_false (by omega), Bool.false_and]
    exact b_0 i
  | n + 1, h => by
    have ih := hx_bitsT f hi n (by omega)
    rw [hx_bitsS]
    by_cases e : i = n
    · subst e
      rw [decide_eq_false (by omega), Bool.false_and] at ih
      rw [decide_eq_true (by omega), Bool.true_and]
      by_cases c : f i = true
      · rw [if_pos c, b_or, hx_one hi hi, decide_eq_true rfl, Bool.or_true, c]
      · rw [if_neg c, ih]
        rw [Bool.not_eq_true] at c
        rw [c]
    · have e2 : decide (i < n + 1) = decide (i < n) := by
        by_cases l : i < n
        · rw [decide_eq_true l, decide_eq_true (by omega)]
        · rw [decide_eq_false l, decide_eq_false (by omega)]
      rw [e2, ← ih]
      split
      · rw [b_or, hx_one (by omega) hi, decide_eq_false e, Bool.or_false]
      · rfl
theorem hx_bitsC {f g : Nat → Bool} : ∀ n, (∀ i, i < n → f i = g i) → hx_bits f n = hx_bits g n
  | 0, _ => rfl
  | n + 1, h => by rw [hx_bitsS, hx_bitsS, hx_bitsC n (fun i hi => h i (by omega)), h n (by omega)]
def hx_mb (E : hx_Env) (its : Int32) : Int32 := hx_bits (fun p => decide (hx_Pt E p = its)) (hx_P E)
def hx_sm (E : hx_Env) (t : hx_St) (its : Int32) : Int32 := hx_bits (fun p => decide (hx_Pt E p = its) && bt (t 16) p) (hx_P E)
theorem hx_mbsm {E : hx_Env} (h8 : hx_P E ≤ 8) (t : hx_St) (its : Int32) : hx_mb E its &&& t 16 = hx_sm E t its := by
  apply b_ext
  intro i hi
  unfold hx_mb hx_sm
  rw [b_and, hx_bitsT _ hi _ (by omega), hx_bitsT _ hi _ (by omega), Bool.and_assoc]
theorem hx_ofpL (d : Nat) {μ : hs_M} {E : hx_Env} (hE : hx_EC μ E) (its : Int32) : ∀ (m k : Nat), k + m = hx_P E → he_Town_ofParty_4 d its (hx_bits (fun p => decide (hx_Pt E p = its)) k) (nI k) μ = some (some (vI (hx_mb E its)), μ)
  | 0, k, hk => by
    have h8 := hE.1.1
    rw [hq_Town_ofParty_4, hx_eP hE, if_neg (nI_nlt (by omega) (by omega)), show k = hx_P E from hk]
    rfl
  | m + 1, k, hk => by
    have h8 := hE.1.1
    have ih := hx_ofpL d hE its m (k + 1) (by omega)
    rw [hx_bitsS] at ih
    rw [hq_Town_ofParty_4, hx_eP hE, if_pos (nI_lt (by omega) (by omega)), if_pos (hx_in (by omega) (by omega)), nI_clamp (by omega), hE.2.2.1 k (by omega), hq_Town_ofParty_28, hq_Town_ofParty_28, nI_1]
    by_cases c : hx_Pt E k = its
    · rw [if_pos (decide_eq_true c)] at ih
      rw [if_pos c]
      exact ih
    · rw [if_neg (by rw [decide_eq_false c]; decide)] at ih
      rw [if_neg c]
      exact ih
theorem hx_ofp (d : Nat) {μ : hs_M} {E : hx_Env} (hE : hx_EC μ E) (its : Int32) : hc_Town_ofParty (d + 1) its μ = some (some (vI (hx_mb E its)), μ) := by
  rw [hq_Town_ofParty]
  exact hx_ofpL d hE its (hx_P E) 0 (by omega)
/-- the next one round -/
def hx_fk (S : Nat → Bool) (l : Nat) : Nat → Nat → Int32
  | 0, _ => -1
  | m + 1, k => if S ((l + k) % 8) = true then nI ((l + k) % 8) else hx_fk S l m (k + 1)
theorem hx_fkR (S : Nat → Bool) (l : Nat) : ∀ m k, hx_fk S l m k = -1 ∨ ∃ q, q < 8 ∧ hx_fk S l m k = nI q ∧ S q = true
  | 0, _ => Or.inl rfl
  | m + 1, k => by
    unfold hx_fk
    by_cases c : S ((l + k) % 8) = true
    · rw [if_pos c]
      exact Or.inr ⟨_, Nat.mod_lt _ (by omega), rfl, c⟩
    · rw [if_neg c]
      exact hx_fkR S l m (k + 1)
theorem hx_fkN (S : Nat → Bool) (l : Nat) : ∀ m k, hx_fk S l m k = -1 → ∀ j, k ≤ j → j < k + m → S ((l + j) % 8) = false
  | 0, k, _, j, h1, h2 => absurd h2 (by omega)
  | m + 1, k, h, j, h1, h2 => by
    unfold hx_fk at h
    by_cases c : S ((l + k) % 8) = true
    · rw [if_pos c] at h
      have := nI_pos (n := (l + k) % 8) (by omega)
      rw [h] at this
      exact absurd hx_m1 this
    · rw [if_neg c] at h
      by_cases e : j = k
      · rw [e]
        rw [Bool.not_eq_true] at c
        exact c
      · exact hx_fkN S l m (k + 1) h j (by omega) (by omega)
def hx_nt (sm : Int32) (l : Nat) : Int32 := hx_fk (bt sm) l 8 0
theorem hx_lk (l k : Nat) : nI l - 1 + nI (k + 1) = nI (l + k) := by
  rw [Int32.sub_eq_add_neg, Int32.add_assoc, Int32.add_comm (-1) (nI (k + 1)), pk_m1, nI_add]
theorem hx_m8 {a : Nat} (ha : a < 2 ^ 31) : nI a - nI a / 8 * 8 = nI (a % 8) := pk_rem (d := 8) ha (by omega) (by omega)
theorem hx_ntC (d : Nat) (sm : Int32) {l : Nat} (hl : l ≤ 8) (μ : hs_M) : ∀ (m k : Nat), k + m = 8 → he_Future_nextOf_2 d sm (nI l - 1) (nI (k + 1)) μ = some (some (vI (hx_fk (bt sm) l m k)), μ)
  | 0, k, hk => by
    rw [hq_Future_nextOf_2, if_pos (show (8 : Int32) < nI (k + 1) from nI_lt (a := 8) (by omega) (by omega))]
    rfl
  | m + 1, k, hk => by
    have ih := hx_ntC d sm hl μ m (k + 1) (by omega)
    rw [hq_Future_nextOf_2, if_neg (show ¬ (8 : Int32) < nI (k + 1) from nI_nlt (a := 8) (by omega) (by omega)), hx_lk, hx_m8 (by omega), hx_bt0 _ (by omega), nI_1]
    unfold hx_fk
    by_cases c : bt sm ((l + k) % 8) = true
    · rw [if_pos c, if_pos c]
    · rw [if_neg c, if_neg c]
      exact ih
theorem hx_next (d : Nat) (sm : Int32) {l : Nat} (hl : l ≤ 8) (μ : hs_M) : hc_Future_nextOf (d + 1) sm (nI l - 1) μ = some (some (vI (hx_nt sm l)), μ) := by
  rw [hq_Future_nextOf]
  exact hx_ntC d sm hl μ 8 0 (by omega)
/-- whose turn was last, one more -/
def hx_tl (sm : Int32) : Nat → Nat
  | 0 => 0
  | k + 1 => if hx_nt sm (hx_tl sm k) < 0 then 0 else (hx_nt sm (hx_tl sm k)).toNatClampNeg + 1
theorem hx_tlS (sm : Int32) (k : Nat) : hx_tl sm (k + 1) = if hx_nt sm (hx_tl sm k) < 0 then 0 else (hx_nt sm (hx_tl sm k)).toNatClampNeg + 1 := rfl
theorem hx_ntR (sm : Int32) (l : Nat) : (hx_nt sm l < 0 ∧ hx_nt sm l = -1) ∨ (¬ hx_nt sm l < 0 ∧ ∃ q, q < 8 ∧ hx_nt sm l = nI q ∧ bt sm q = true) := by
  rcases hx_fkR (bt sm) l 8 0 with e | ⟨q, hq, e, h⟩
  · left
    unfold hx_nt
    rw [e]
    exact ⟨hx_m1, rfl⟩
  · right
    unfold hx_nt
    rw [e]
    exact ⟨nI_pos (by omega), q, hq, rfl, h⟩
theorem hx_tl8 (sm : Int32) : ∀ k, hx_tl sm k ≤ 8
  | 0 => Nat.zero_le 8
  | k + 1 => by
    rw [hx_tlS]
    rcases hx_ntR sm (hx_tl sm k) with ⟨a, _⟩ | ⟨a, q, hq, e, _⟩
    · rw [if_pos a]
      omega
    · rw [if_neg a, e, nI_clamp (by omega)]
      omega
theorem hx_tlN (sm : Int32) (k : Nat) : nI (hx_tl sm (k + 1)) - 1 = hx_nt sm (hx_tl sm k) := by
  rw [hx_tlS]
  rcases hx_ntR sm (hx_tl sm k) with ⟨a, e⟩ | ⟨a, q, hq, e, _⟩
  · rw [if_pos a, e]
    decide
  · rw [if_neg a, e, nI_clamp (by omega), nI_pred]
def hx_su (sm : Int32) (k : Nat) : Int32 := if hx_nt sm (hx_tl sm k) < 0 then 0 else (1 : Int32) <<< (hx_nt sm (hx_tl sm k) &&& 31)
noncomputable def hx_tb (E : hx_Env) (t : hx_St) (its : Int32) : Nat → hx_St
  | 0 => t
  | k + 1 => hx_stp E (hx_tb E t its k) (hx_sa E (hx_tb E t its k) (hx_su (hx_sm E t its) k) (255 &&& (hx_mb E its ^^^ (-1))))
theorem hx_tbS (E : hx_Env) (t : hx_St) (its : Int32) (k : Nat) : hx_tb E t its (k + 1) = hx_stp E (hx_tb E t its k) (hx_sa E (hx_tb E t its k) (hx_su (hx_sm E t its) k) (255 &&& (hx_mb E its ^^^ (-1)))) := rfl
theorem hx_s16 {E : hx_Env} (h8 : hx_P E ≤ 8) {t : hx_St} {W : Nat} (ht : hx_tw (hx_P E) W t) (S : Nat → Bool) : hx_stp E t S 16 = t 16 := by
  unfold hx_stp
  apply hx_f16 h8
  apply hx_woR ht
  rcases hx_winr E t S (hx_P E) with e | ⟨p, hp, e, _⟩
  · exact Or.inl e
  · exact Or.inr ⟨p, hp, e⟩
theorem hx_tbtw {E : hx_Env} (h8 : hx_P E ≤ 8) (its : Int32) {t : hx_St} {W : Nat} (ht : hx_tw (hx_P E) W t) : ∀ n, W + n < 2 ^ 30 → hx_tw (hx_P E) (W + n) (hx_tb E t its n) ∧ hx_tb E t its n 16 = t 16
  | 0, _ => ⟨ht, rfl⟩
  | n + 1, h => by
    obtain ⟨a, b⟩ := hx_tbtw h8 its ht n (by omega)
    refine ⟨hx_stw h8 (by omega) a _, ?_⟩
    rw [hx_tbS, hx_s16 h8 a, b]
theorem hx_tuC (d : Nat) {E : hx_Env} {W : Nat} {t : hx_St} (ht : hx_tw (hx_P E) W t) {n : Nat} (hn : W + n < 2 ^ 30) (its w0 : Int32) : ∀ (m k : Nat) (μ : hs_M), k + m = n → hx_EC μ E → hx_SC μ 0 t → hx_SC μ 35 (hx_tb E t its k) → ∃ μ', he_Future_takingTurns_41 (d + 4) its (nI n) w0 (hx_mb E its) (nI (hx_tl (hx_sm E t its) k) - 1) (nI k) μ = some (some (vI (hx_gp E (hx_tb E t its n) t its (hx_P E))), μ') ∧ hx_fr hx_qX μ μ' ∧ hx_rwC μ' [(hx_gp E (hx_tb E t its n) t its (hx_P E) - w0).toInt64]
  | 0, k, μ, hk, hE, h0, hs => by
    have e : k = n := hk
    subst e
    obtain ⟨μ1, e1, f1, r1⟩ := hx_begin (d + 2) μ (hx_gp E (hx_tb E t its k) t its (hx_P E) - w0).toInt64
    rw [hq_Future_takingTurns_41, if_neg (nI_nlt (by omega) (by omega)), hx_gop _ hE hs h0, hx_bI, e1, hx_bV]
    exact ⟨μ1, rfl, hx_xRq f1, r1⟩
  | m + 1, k, μ, hk, hE, h0, hs => by
    have h8 := hE.1.1
    obtain ⟨tw, _⟩ := hx_tbtw h8 its ht k (by omega)
    obtain ⟨μ1, e1, f1, s1, _⟩ := hx_pass d hE (by omega) tw hs (hx_su (hx_sm E t its) k) (255 &&& (hx_mb E its ^^^ (-1)))
    rw [← hx_tbS] at s1
    have q1 := hx_qCX (hx_xSq (by omega) f1)
    obtain ⟨μ2, e2, f2, r2⟩ := hx_tuC d ht hn its w0 m (k + 1) μ1 (by omega) (hx_ECq q1 hE) (hx_SCq q1 (by omega) h0) s1
    rw [hx_tlN] at e2
    refine ⟨μ2, ?_, hx_tr q1 f2, r2⟩
    rw [hq_Future_takingTurns_41, if_pos (nI_lt (by omega) (by omega)), h0.2.2.1, hx_mbsm h8, hx_next _ _ (hx_tl8 _ _), hx_bI, nI_1, ← e2]
    unfold hx_su at e1
    by_cases c : hx_nt (hx_sm E t its) (hx_tl (hx_sm E t its) k) < 0
    · rw [if_pos c] at e1 ⊢
      rw [e1, hx_bV]
    · rw [if_neg c] at e1 ⊢
      rw [e1, hx_bV]
theorem hx_smL (d : Nat) {μ : hs_M} {E : hx_Env} (hE : hx_ER μ E) {t : hx_St} (hs : hx_SR μ 45 0 t) (its y w0 : Int32) : ∀ (m k : Nat), k + m = hx_P E → he_M_byTurns_48 (d + 1) its y w0 (hx_bits (fun p => decide (hx_Pt E p = its) && bt (t 16) p) k) (nI k) μ = he_M_byTurns_48 (d + 1) its y w0 (hx_sm E t its) (nI (hx_P E)) μ
  | 0, k, hk => by
    rw [show k = hx_P E from hk]
    rfl
  | m + 1, k, hk => by
    have h8 := hE.1.1
    have ih := hx_smL d hE hs its y w0 m (k + 1) (by omega)
    rw [← ih, hx_bitsS, hq_M_byTurns_48, hx_rP hE, if_pos (nI_lt (by omega) (by omega)), if_pos (hx_in (by omega) (by omega)), nI_clamp (by omega), hE.2.2.1 k (by omega), hx_has _ _ (by omega), hx_bI, hx_tn0, hx_SR0 hs (by omega), nI_1, Int32.or_zero]
    by_cases c : hx_Pt E k = its
    · rw [if_pos c, decide_eq_true c, Bool.true_and]
      cases bt (t 16) k <;> rfl
    · rw [if_neg c, decide_eq_false c, Bool.false_and, if_neg (by decide)]
theorem hx_tuW (d : Nat) (its y w0 x6 x7 : Int32) {sm : Int32} {l q : Nat} (hq : q < 8) (μ : hs_M) : ∀ (m k : Nat), k + m = 8 → hx_fk (bt sm) l m k = nI q → he_M_byTurns_147 (d + 1) its y w0 sm (nI ((l + k) % 8)) x6 x7 μ = he_M_byTurns_147 (d + 1) its y w0 sm (nI q) x6 x7 μ
  | 0, k, hk, h => by
    exfalso
    have := nI_pos (n := q) (by omega)
    rw [← h] at this
    exact this hx_m1
  | m + 1, k, hk, h => by
    have hlt : (l + k) % 8 < 8 := Nat.mod_lt _ (by omega)
    unfold hx_fk at h
    by_cases c : bt sm ((l + k) % 8) = true
    · rw [if_pos c] at h
      rw [h]
    · rw [if_neg c] at h
      have ih := hx_tuW d its y w0 x6 x7 hq μ m (k + 1) (by omega) h
      rw [hq_M_byTurns_147, hx_has _ _ (by omega), hx_bI, hx_tn0, if_neg c, nI_1, hx_m8 (by omega), show ((l + k) % 8 + 1) % 8 = (l + (k + 1)) % 8 by omega]
      exact ih
theorem hx_smS {E : hx_Env} (h8 : hx_P E ≤ 8) {t s : hx_St} (h16 : s 16 = t 16) (its : Int32) (su : Int32) : hx_stp E s (bt ((hx_wb E s (hx_P E) &&& (hx_sm E t its ^^^ (-1))) ||| su)) = hx_stp E s (hx_sa E s su (255 &&& (hx_mb E its ^^^ (-1)))) := by
  apply hx_stc
  intro p hp al
  rw [b_or, b_and, hx_wbt E s (by omega) _ (by omega), hx_not _ (by omega)]
  unfold hx_sa
  rw [b_and, b_255, hx_not _ (by omega), al, decide_eq_true hp, decide_eq_true (show p < 8 by omega)]
  have e : bt (hx_sm E t its) p = bt (hx_mb E its) p := by
    rw [← hx_mbsm h8, b_and, ← h16, al, Bool.and_true]
  rw [e]
  cases bt su p <;> cases bt (hx_mb E its) p <;> cases decide (hx_ww E s p ≠ 0) <;> rfl
theorem hx_sm0 {E : hx_Env} (h8 : hx_P E ≤ 8) {t : hx_St} {its : Int32} {l : Nat} (hl : l ≤ 8) (h : hx_nt (hx_sm E t its) l = -1) : hx_sm E t its = 0 := by
  apply b_ext
  intro i hi
  rw [b_0]
  by_cases c : i < hx_P E
  · have := hx_fkN (bt (hx_sm E t its)) l 8 0 h ((i + 8 - l % 8) % 8) (by omega) (by omega)
    rw [show (l + (i + 8 - l % 8) % 8) % 8 = i by omega] at this
    exact this
  · unfold hx_sm
    rw [hx_bitsT _ hi _ (by omega), decide_eq_false c, Bool.false_and]
theorem hx_nt0 (l : Nat) : hx_nt 0 l = -1 := by
  rcases hx_ntR 0 l with ⟨_, e⟩ | ⟨_, q, _, _, h⟩
  · exact e
  · rw [b_0] at h
    cases h
theorem hx_tuR (d : Nat) {E : hx_Env} {W : Nat} {t : hx_St} (ht : hx_tw (hx_P E) W t) {n : Nat} (hn : W + n < 2 ^ 30) (its w0 : Int32) : ∀ (m k : Nat) (μ : hs_M), k + m = n → hx_ER μ E → hx_SR μ 46 0 (hx_tb E t its k) → hx_sf μ t (hx_tb E t its k) → ∃ μ', he_M_byTurns_112 (d + 5) its (nI n) w0 (hx_sm E t its) (nI (hx_tl (hx_sm E t its) k) - 1) (nI k) μ = some (some (vI (hx_gp E (hx_tb E t its n) t its (hx_P E))), μ') ∧ hx_fr hx_qY μ μ' ∧ hx_rwR μ' [(hx_gp E (hx_tb E t its n) t its (hx_P E) - w0).toInt64]
  | 0, k, μ, hk, hE, hs, h0 => by
    have e : k = n := hk
    subst e
    have f0 : hx_fr hx_yR μ (hs_wI μ 12 0 1 0) := hx_wr (hx_rf _ _) _ (by unfold hx_yR; omega)
    obtain ⟨μ1, e1, f1, r1⟩ := hx_ent (d + 4) (hx_rwz μ) (by decide) (hx_gp E (hx_tb E t its k) t its (hx_P E) - w0).toInt64
    rw [hq_M_byTurns_112, if_neg (nI_nlt (by omega) (by omega)), hx_sb _ (hx_ER_R f0 hE) (hx_sf_R f0 h0), hx_bI, e1, hx_bV, hx_sb _ (hx_ER_R f1 (hx_ER_R f0 hE)) (hx_sf_R f1 (hx_sf_R f0 h0)), hx_bI]
    exact ⟨μ1, rfl, hx_yRq (hx_tr f0 f1), r1⟩
  | m + 1, k, μ, hk, hE, hs, h0 => by
    have h8 := hE.1.1
    have hl8 := hx_tl8 (hx_sm E t its) k
    obtain ⟨tw, t16⟩ := hx_tbtw h8 its ht k (by omega)
    obtain ⟨μ1, e1, f1⟩ := hx_willing d (κ := 46) (Or.inr (Or.inl rfl)) hE tw hs
    have f1' : hx_fr hx_yN μ μ1 := hx_mo (fun κ b i x => Or.inl x) f1
    have s1 := hx_SRV f1 (κ := 46) (by omega) hs
    have h1 : hx_sf μ1 t (hx_tb E t its k) := fun i hi => by
      rw [f1.1 57 0 i (by unfold hx_xV; omega)]
      exact h0 i hi
    obtain ⟨μ2, e2, f2, s2, h2⟩ := hx_goNext (d + 1) (hx_ERV f1 hE) (by omega) tw s1 h1 ((hx_wb E (hx_tb E t its k) (hx_P E) &&& (hx_sm E t its ^^^ (-1))) ||| hx_su (hx_sm E t its) k)
    rw [hx_smS h8 t16, ← hx_tbS] at s2 h2
    obtain ⟨μ3, e3, f3, r3⟩ := hx_tuR d ht hn its w0 m (k + 1) μ2 (by omega) (hx_ERN f2 (hx_ERV f1 hE)) s2 h2
    refine ⟨μ3, ?_, hx_tr (hx_qRY (hx_yNq (hx_tr f1' f2))) f3, r3⟩
    rw [hx_tlN] at e3
    rw [hq_M_byTurns_112, if_pos (nI_lt (by omega) (by omega)), e1, hx_bI, ← e3, nI_1]
    unfold hx_su at e2
    by_cases c : hx_sm E t its = 0
    · have en : ∀ l, hx_nt (hx_sm E t its) l = -1 := fun l => by
        rw [c]
        exact hx_nt0 l
      have el : nI (hx_tl (hx_sm E t its) k) - 1 = -1 := by
        cases k with
        | zero => rfl
        | succ k => rw [hx_tlN, en]
      rw [if_pos (by rw [en]; exact hx_m1), Int32.or_zero] at e2
      rw [if_pos c, e2, hx_bV, en, el]
    · rw [if_neg c]
      rcases hx_ntR (hx_sm E t its) (hx_tl (hx_sm E t its) k) with ⟨_, e⟩ | ⟨a, q, hq, e, hb⟩
      · exact absurd (hx_sm0 h8 hl8 e) c
      · rw [if_neg a, e] at e2
        have el : nI (hx_tl (hx_sm E t its) k) - 1 + 1 = nI (hx_tl (hx_sm E t its) k + 0) := hx_lk _ 0
        rw [el, hx_m8 (by omega), hx_tuW _ its _ w0 _ _ hq μ1 8 0 (by omega) e, hq_M_byTurns_147, hx_has _ _ (by omega), hx_bI, hx_tn0, if_pos hb, e2, hx_bV, e, nI_1]
theorem hx_byTurns (d : Nat) {n : Nat} (hn : n ≤ 512) {E : hx_Env} {t : hx_St} {μ : hs_M} (h : hx_I n E t μ) (x y : Int32) : hx_A n μ (hc_H_byTurns (d + 7) x y) (hc_M_byTurns (d + 7) x y) := by
  have h8 := h.1.1.1
  have h0 := hx_I0 (hx_Ia h)
  have ec : ∀ A B : Option (Option hs_V × hs_M), (if x < 0 then A else if x < 4 then B else A) = if hx_rg 0 3 x = true then B else A := by
    intro A B
    have e0 : (0 : Int32).toInt = 0 := by decide
    have e4 : (4 : Int32).toInt = 4 := by decide
    unfold hx_rg
    by_cases c1 : x < 0
    · rw [if_pos c1]
      rw [hx_li] at c1
      rw [if_neg]
      intro h
      have := of_decide_eq_true h
      omega
    · rw [if_neg c1]
      rw [hx_li] at c1
      by_cases c2 : x < 4
      · rw [if_pos c2]
        rw [hx_li] at c2
        rw [if_pos]
        exact decide_eq_true (by omega)
      · rw [if_neg c2]
        rw [hx_li] at c2
        rw [if_neg]
        intro h
        have := of_decide_eq_true h
        omega
  by_cases c : hx_rg 0 3 x = true
  · by_cases c2 : hx_rg 0 99 y = true
    · obtain ⟨k, hk, ey⟩ := hx_rgN (n := 99) c2
      obtain ⟨μ1, e1, f1, s1⟩ := hx_run d h.1 h.2.2.2.2.1 h.2.2.1.1 255 (n := k) (by omega)
      have q1 := hx_qCX (hx_xSq (by omega) f1)
      have E1 := hx_ECq q1 h.1
      have S1 := hx_SCq q1 (by omega) h.2.2.1.1
      obtain ⟨μ2, e2, f2, s2⟩ := hx_follow (d + 4) (j := 35) S1 (by omega)
      have f2' : hx_fr (hx_xS 35) μ1 μ2 := hx_mo (fun κ b i x => by unfold hx_xS; omega) f2
      have q2 := hx_qCX (hx_xSq (by omega) f2')
      obtain ⟨μ3, e3, f3, r3⟩ := hx_tuC (d + 1) (E := E) h.2.2.2.2.1 (n := k) (by omega) x (hx_gp E (hx_by E 255 t k) t x (hx_P E)) k 0 μ2 (by omega) (hx_ECq q2 E1) (hx_SCq q2 (by omega) S1) s2
      have q3 := hx_tr (hx_tr q1 q2) f3
      have hI := hx_I0 (hx_Ir h q3)
      obtain ⟨μ5, μ6, e5, e6, f6, s6, g6⟩ := hx_stBy d hI.2.1 (hx_nv0 h8) hI.2.2.2.2.1 hI.2.2.2.1 (n := k) (by omega)
      have E6 := hx_ERN f6 hI.2.1
      have S6 := hx_SRq (hx_qRY (hx_yNq f6)) hI.2.2.2.1
      obtain ⟨μ7, e7, f7, s7, g7⟩ := hx_starts (d + 4) S6
      obtain ⟨μ8, e8, f8, r8⟩ := hx_tuR (d + 1) (E := E) h.2.2.2.2.1 (n := k) (by omega) x (hx_gp E (hx_by E 255 t k) t x (hx_P E)) k 0 μ7 (by omega) (hx_ERN f7 E6) s7 (fun i hi => by rw [g7 i hi]; exact (Int32.sub_self _).symm)
      refine ⟨hx_gp E (hx_tb E t x k) t x (hx_P E), μ3, μ8, ?_, ?_, E, t, hx_Iq1 h q3 r3 ?_ r8⟩
      · rw [hq_H_byTurns, hq_H_byTurns_19, ec, if_pos c, hx_i99, if_pos c2, ey, hq_Future_takingTurns, e1, hx_bV, hx_gop _ E1 s1 S1, hx_bI, hx_ofp _ E1, hx_bI, e2, hx_bV]
        rw [show he_Future_takingTurns_41 (d + 5) x (nI k) (hx_gp E (hx_by E 255 t k) t x (hx_P E)) (hx_mb E x) (-1) 0 μ2 = he_Future_takingTurns_41 (d + 5) x (nI k) (hx_gp E (hx_by E 255 t k) t x (hx_P E)) (hx_mb E x) (nI (hx_tl (hx_sm E t x) 0) - 1) (nI 0) μ2 from rfl, e3, hx_bI]
      · rw [hq_M_byTurns, hx_inR, hx_bI, hx_tn0, show hx_rg (Int64.toInt 0) (Int64.toInt 3) x = hx_rg 0 3 x from rfl, if_pos c, hx_weeks, hx_bI, hx_tn0, if_pos c2, ey, e5, hx_bV, e6, hx_bV, hx_sb _ E6 g6, hx_bI]
        rw [show he_M_byTurns_48 (d + 6) x (nI k) (hx_gp E (hx_by E 255 t k) t x (hx_P E)) 0 0 μ6 = he_M_byTurns_48 (d + 6) x (nI k) (hx_gp E (hx_by E 255 t k) t x (hx_P E)) (hx_bits (fun p => decide (hx_Pt E p = x) && bt (t 16) p) 0) (nI 0) μ6 from rfl, hx_smL _ E6 S6 _ _ _ (hx_P E) 0 (by omega), hq_M_byTurns_48, hx_rP E6, if_neg (nI_nlt (by omega) (by omega)), e7, hx_bV]
        rw [show he_M_byTurns_112 (d + 6) x (nI k) (hx_gp E (hx_by E 255 t k) t x (hx_P E)) (hx_sm E t x) (-1) 0 μ7 = he_M_byTurns_112 (d + 6) x (nI k) (hx_gp E (hx_by E 255 t k) t x (hx_P E)) (hx_sm E t x) (nI (hx_tl (hx_sm E t x) 0) - 1) (nI 0) μ7 from rfl, e8]
      · exact hx_tr (hx_tr (hx_tr (hx_wr (hx_rf _ _) _ (by unfold hx_qY hx_qR; omega)) (hx_qRY (hx_yNq f6))) (hx_qRY (hx_yNq f7))) f8
    · apply hx_Anone h (v := -1)
      · rw [hq_H_byTurns, hq_H_byTurns_19, ec, if_pos c, hx_i99, if_neg c2]
      · rw [hq_M_byTurns, hx_inR, hx_bI, hx_tn0, show hx_rg (Int64.toInt 0) (Int64.toInt 3) x = hx_rg 0 3 x from rfl, if_pos c, hx_weeks, hx_bI, hx_tn0, if_neg c2, hq_M_byTurns_24]
  · apply hx_Anone h (v := -1)
    · rw [hq_H_byTurns, hq_H_byTurns_19, ec, if_neg c]
    · rw [hq_M_byTurns, hx_inR, hx_bI, hx_tn0, show hx_rg (Int64.toInt 0) (Int64.toInt 3) x = hx_rg 0 3 x from rfl, if_neg c, hq_M_byTurns_24]
