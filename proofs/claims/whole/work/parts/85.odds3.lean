/-! ===== E: odds, likely ===== -/
theorem hx_gBn {E : hx_Env} {t : hx_St} {S : Nat → Bool} : ∀ n, (∀ p, p < n → hx_stn t S p = false) → hx_gB E t S n = -1
  | 0, _ => rfl
  | n + 1, h => by
    rw [hx_gBS, if_neg (by rw [h n (by omega)]; rintro ⟨x, _⟩; cases x)]
    exact hx_gBn n (fun p hp => h p (by omega))
theorem hx_winn {E : hx_Env} {t : hx_St} {S : Nat → Bool} {n : Nat} (h : ∀ p, p < n → hx_stn t S p = false) : hx_win E t S n = -1 := by
  apply hx_winF
  intro w
  have := w.1
  rw [hx_gBn n h] at this
  exact this hx_m1
theorem hx_gB1 {E : hx_Env} {t : hx_St} {S : Nat → Bool} {k : Nat} (hk : hx_stn t S k = true) (ho : ∀ p, p ≠ k → p < 8 → hx_stn t S p = false) : ∀ n, n ≤ 8 → hx_gB E t S n = if k < n then nI k else -1
  | 0, _ => by
    rw [if_neg (by omega)]
    rfl
  | n + 1, h => by
    have ih := hx_gB1 (E := E) hk ho n (by omega)
    rw [hx_gBS, ih]
    by_cases z : n = k
    · subst z
      rw [show (if n < n then nI n else (-1 : Int32)) = -1 from if_neg (by omega), if_pos ⟨hk, Or.inl hx_m1⟩, if_pos (by omega)]
    · rw [if_neg (by rw [ho n z (by omega)]; rintro ⟨x, _⟩; cases x)]
      by_cases y : k < n
      · rw [if_pos y, if_pos (by omega)]
      · rw [if_neg y, if_neg (by omega)]
theorem hx_win1 {E : hx_Env} (h8 : hx_P E ≤ 8) {t : hx_St} {k : Nat} (hk : k < hx_P E) (h : hx_opn E t k = true) : hx_win E t (bt ((1 : Int32) <<< (nI k &&& 31))) (hx_P E) = nI k := by
  unfold hx_opn at h
  rw [Bool.and_eq_true, Bool.and_eq_true, Bool.and_eq_true] at h
  obtain ⟨h1, h2, h3, _⟩ := h
  have st : hx_stn t (bt ((1 : Int32) <<< (nI k &&& 31))) k = true := by
    unfold hx_stn
    rw [hx_one (by omega) (by omega), decide_eq_true rfl, h2, h1]
    rfl
  have no : ∀ p, p ≠ k → p < 8 → hx_stn t (bt ((1 : Int32) <<< (nI k &&& 31))) p = false := by
    intro p z hp
    unfold hx_stn
    rw [hx_one (by omega) (by omega), decide_eq_false z]
    rfl
  have g := hx_gB1 (E := E) st no (hx_P E) h8
  rw [if_pos hk] at g
  have w : hx_wcn E t (bt ((1 : Int32) <<< (nI k &&& 31))) (hx_P E) := by
    refine ⟨?_, ?_⟩
    · rw [g]
      exact nI_pos (by omega)
    · rw [g, nI_clamp (by omega)]
      exact of_decide_eq_true h3
  rw [hx_winT w, g]
/-- the state behind a week that i wins (8: nobody does) -/
def hx_oi (t : hx_St) (i : Nat) : Int32 := if i = 8 ∨ i = hx_wi t then -1 else nI i
def hx_os (E : hx_Env) (t : hx_St) (i : Nat) : hx_St := hx_fin E t (hx_oi t i)
theorem hx_wiR {P W : Nat} (h8 : P ≤ 8) {t : hx_St} (ht : hx_tw P W t) : (hx_wi t = 8 ∧ t 17 = -1) ∨ (hx_wi t < P ∧ t 17 = nI (hx_wi t)) := by
  unfold hx_wi
  rcases hx_who ht h8 with ⟨w, e⟩ | ⟨w, q, hq, e⟩
  · rw [if_pos w]
    exact Or.inl ⟨rfl, e⟩
  · rw [if_neg w, e, nI_clamp (by omega)]
    exact Or.inr ⟨hq, rfl⟩
theorem hx_oir {E : hx_Env} (hE : hx_ok E) {t : hx_St} {i : Nat} (h : 0 < hx_od E t i) : hx_wr8 (hx_P E) (hx_oi t i) := by
  unfold hx_oi
  by_cases c : i = 8 ∨ i = hx_wi t
  · rw [if_pos c]
    exact Or.inl rfl
  · rw [if_neg c]
    exact Or.inr ⟨i, (hx_odp hE t (fun z => c (Or.inr z)) h).1, rfl⟩
theorem hx_osR {E : hx_Env} (hE : hx_ok E) {W : Nat} {t : hx_St} (ht : hx_tw (hx_P E) W t) {i : Nat} (hi : i < 9) (h : 0 < hx_od E t i) : hx_stp E t (bt (if i = 8 then 0 else (1 : Int32) <<< (nI i &&& 31))) = hx_os E t i := by
  have h8 := hE.1
  unfold hx_os hx_stp hx_oi
  by_cases c8 : i = 8
  · rw [if_pos c8, if_pos (Or.inl c8), hx_winn]
    intro p _
    unfold hx_stn
    rw [b_0, Bool.false_and]
  · rw [if_neg c8]
    by_cases cw : i = hx_wi t
    · rw [if_pos (Or.inr cw), hx_winn]
      intro p hp
      unfold hx_stn
      rcases hx_wiR h8 ht with ⟨a, _⟩ | ⟨a, b⟩
      · omega
      · by_cases z : p = i
        · rw [z, cw, decide_eq_true b.symm, Bool.not_true, Bool.and_false, Bool.and_false]
        · rw [hx_one (by omega) (by omega), decide_eq_false z, Bool.false_and]
    · obtain ⟨a, b⟩ := hx_odp hE t cw h
      rw [if_neg (by rintro (z | z); exact c8 z; exact cw z), hx_win1 h8 a b]
noncomputable def hx_tm (E : hx_Env) (t : hx_St) (p i : Nat) : Nat := hx_od E t i * hx_od E (hx_os E t i) p
noncomputable def hx_tms (E : hx_Env) (t : hx_St) (p : Nat) : Nat → Nat
  | 0 => 0
  | k + 1 => hx_tms E t p k + hx_tm E t p k
theorem hx_tmS (E : hx_Env) (t : hx_St) (p k : Nat) : hx_tms E t p (k + 1) = hx_tms E t p k + hx_tm E t p k := rfl
theorem hx_tmle {E : hx_Env} (hE : hx_ok E) (t : hx_St) (p i : Nat) : hx_tm E t p i ≤ 40000000000000000 := by
  unfold hx_tm
  exact Nat.le_trans (Nat.mul_le_mul (hx_odle hE t i) (hx_odle hE _ p)) (by decide)
theorem hx_tmsle {E : hx_Env} (hE : hx_ok E) (t : hx_St) (p : Nat) : ∀ k, hx_tms E t p k ≤ k * 40000000000000000
  | 0 => Nat.zero_le _
  | k + 1 => by
    have := hx_tmsle hE t p k
    have := hx_tmle hE t p k
    rw [hx_tmS, Nat.succ_mul]
    omega
theorem hx_tmx {E : hx_Env} (hE : hx_ok E) {W : Nat} {t : hx_St} (ht : hx_tw (hx_P E) W t) (p : Nat) : ∀ m, hx_P E + m ≤ 8 → hx_tms E t p (hx_P E + m) = hx_tms E t p (hx_P E)
  | 0, _ => rfl
  | m + 1, h => by
    have z : hx_od E t (hx_P E + m) = 0 := by
      cases y : hx_od E t (hx_P E + m) with
      | zero => rfl
      | succ v =>
        exfalso
        have ne : hx_P E + m ≠ hx_wi t := by
          rcases hx_wiR hE.1 ht with ⟨a, _⟩ | ⟨a, _⟩ <;> omega
        have := (hx_odp hE t ne (by omega)).1
        omega
    rw [show hx_P E + (m + 1) = hx_P E + m + 1 from rfl, hx_tmS, hx_tmx hE ht p m (by omega)]
    unfold hx_tm
    rw [z, Nat.zero_mul]
    rfl
theorem hx_l0 {a : Nat} (ha : a < 2 ^ 63) : (0 < lg_cmp (lN a) 0) ↔ 0 < a := by
  rw [lg_cmp_gt]
  exact pk_lLT (a := 0) (by omega) ha
/-- the sum in the class, from c on: c counts nobody first -/
theorem hx_cIt (d : Nat) {E : hx_Env} {W : Nat} {t : hx_St} (ht : hx_tw (hx_P E) W t) (hW : W < 2 ^ 30) {p : Nat} (hp : p < hx_P E) {i c : Nat} (hc : (c = 0 ∧ i = 8) ∨ (c = i + 1 ∧ i < hx_P E)) {v : Nat} (hv : v ≤ 400000000000000000) {μ : hs_M} (hE : hx_EC μ E) (h0 : hx_SC μ 0 t) (ho : hx_oC μ 37 (hx_od E t)) : ∃ μ', he_Future_chanceInTwo_5 (d + 4) (nI p) (lN v) (nI c) μ = he_Future_chanceInTwo_5 (d + 4) (nI p) (lN (v + hx_tm E t p i)) (nI (c + 1)) μ' ∧ hx_fr (fun a b _ => a = 23 ∨ a = 38 ∨ (b = 35 ∧ (a = 6 ∨ (24 ≤ a ∧ a ≤ 29)))) μ μ' := by
  have h8 := hE.1.1
  have od := hx_odle hE.1 t i
  have e37 : μ.2 37 0 c = lN (hx_od E t i) := by
    rcases hc with ⟨a, b⟩ | ⟨a, b⟩
    · rw [a, b]
      exact ho.1
    · rw [a, Nat.add_comm]
      exact ho.2 i (by omega)
  rw [hq_Future_chanceInTwo_5, hx_eP hE, if_neg (nI_nlt (by omega) (by omega)), if_pos (hx_in (by omega) (by omega)), nI_clamp (by omega), e37]
  by_cases z : 0 < hx_od E t i
  · rw [if_pos ((hx_l0 (by omega)).mpr z)]
    have hw := hx_oir hE.1 z
    obtain ⟨μ1, e1, f1, s1⟩ := hx_follow (d + 3) (j := 35) h0 (by omega)
    have f1' : hx_fr (hx_xS 35) μ μ1 := hx_mo (fun κ b i x => by unfold hx_xS; omega) f1
    have E1 := hx_ECS f1' hE
    obtain ⟨μ2, e2, f2, s2, _⟩ := hx_finish (d + 1) E1 hW ht s1 hw
    have E2 := hx_ECS f2 E1
    obtain ⟨μ3, e3, f3, o3⟩ := hx_shares d (κ := 38) (Or.inr rfl) E2 (hx_ftw h8 hW ht hw) s2
    have f13 : hx_fr (fun a b _ => a = 23 ∨ a = 38 ∨ (b = 35 ∧ (a = 6 ∨ (24 ≤ a ∧ a ≤ 29)))) μ μ3 := hx_tr (hx_mo (fun κ b i x => by unfold hx_xS at x; omega) (hx_tr f1' f2)) (hx_mo (fun κ b i x => by omega) f3)
    have e37' : μ3.2 37 0 c = lN (hx_od E t i) := by
      rw [f13.2 37 0 c (by omega), e37]
    have e38 : μ3.2 38 0 (1 + p) = lN (hx_od E (hx_os E t i) p) := o3.2 p (by omega)
    have e17 : μ1.1 6 0 1 = t 17 := by
      rw [f1.1 6 0 1 (by omega), h0.2.2.2.1]
    refine ⟨μ3, ?_, f13⟩
    have ev : lN v + lN (hx_od E t i) * lN (hx_od E (hx_os E t i) p) = lN (v + hx_tm E t p i) := by
      rw [lN_mul, lN_add]
      rfl
    rw [e1, hx_bV, e17]
    by_cases cs : nI c - 1 = t 17
    · have eo : hx_oi t i = -1 := by
        unfold hx_oi
        rw [if_pos]
        rcases hc with ⟨a, b⟩ | ⟨a, b⟩
        · exact Or.inl b
        · right
          rw [a, nI_pred] at cs
          rcases hx_wiR h8 ht with ⟨y, x⟩ | ⟨y, x⟩
          · rw [x] at cs
            have := nI_pos (n := i) (by omega)
            rw [cs] at this
            exact absurd hx_m1 this
          · rw [x] at cs
            exact (nI_eq (by omega) (by omega)).mp cs
      rw [eo] at e2
      rw [if_pos cs, e2, hx_bV, e3, hx_bV, if_pos (hx_in (by omega) (by omega)), show (1 : Int32) + nI p = nI (1 + p) from nI_add 1 p, if_pos (hx_in (by omega) (by omega)), nI_clamp (by omega), e37', e38, ev, hq_Future_chanceInTwo_107, nI_1]
    · have eo : hx_oi t i = nI c - 1 := by
        unfold hx_oi
        rcases hc with ⟨a, b⟩ | ⟨a, b⟩
        · rw [if_pos (Or.inl b), a]
          decide
        · rw [a, nI_pred] at cs ⊢
          rw [if_neg]
          rintro (y | y)
          · omega
          · rcases hx_wiR h8 ht with ⟨w, _⟩ | ⟨w, x⟩
            · omega
            · rw [x, y] at cs
              exact cs rfl
      rw [eo] at e2
      rw [if_neg cs, e2, hx_bV, e3, hx_bV, if_pos (hx_in (by omega) (by omega)), show (1 : Int32) + nI p = nI (1 + p) from nI_add 1 p, if_pos (hx_in (by omega) (by omega)), nI_clamp (by omega), e37', e38, ev, hq_Future_chanceInTwo_107, nI_1]
  · rw [if_neg (fun y => z ((hx_l0 (by omega)).mp y)), hq_Future_chanceInTwo_107, nI_1]
    refine ⟨μ, ?_, hx_rf _ _⟩
    have : hx_tm E t p i = 0 := by
      unfold hx_tm
      rw [show hx_od E t i = 0 by omega, Nat.zero_mul]
    rw [this, Nat.add_zero v]
def hx_xZ (a b _i : Nat) : Prop := a = 23 ∨ a = 38 ∨ (b = 35 ∧ (a = 6 ∨ (24 ≤ a ∧ a ≤ 29)))
theorem hx_xZq {μ μ' : hs_M} (f : hx_fr hx_xZ μ μ') : hx_fr hx_qC μ μ' := hx_mo (fun κ b i x => by unfold hx_xZ at x; unfold hx_qC; omega) f
theorem hx_oCZ {μ μ' : hs_M} (f : hx_fr hx_xZ μ μ') {g : Nat → Nat} (h : hx_oC μ 37 g) : hx_oC μ' 37 g := by
  refine ⟨by rw [f.2 37 0 0 (by unfold hx_xZ; omega)]; exact h.1, fun p hp => ?_⟩
  rw [f.2 37 0 (1 + p) (by unfold hx_xZ; omega)]
  exact h.2 p hp
theorem hx_cI2 (d : Nat) {E : hx_Env} {W : Nat} {t : hx_St} (ht : hx_tw (hx_P E) W t) (hW : W < 2 ^ 30) {p : Nat} (hp : p < hx_P E) : ∀ (m k : Nat) (μ : hs_M), k + m = hx_P E → hx_EC μ E → hx_SC μ 0 t → hx_oC μ 37 (hx_od E t) → ∃ μ', he_Future_chanceInTwo_5 (d + 4) (nI p) (lN (hx_tm E t p 8 + hx_tms E t p k)) (nI (k + 1)) μ = some (some (vL (lN (hx_tm E t p 8 + hx_tms E t p (hx_P E)))), μ') ∧ hx_fr hx_xZ μ μ'
  | 0, k, μ, hk, hE, h0, ho => by
    have h8 := hE.1.1
    rw [hq_Future_chanceInTwo_5, hx_eP hE, if_pos (nI_lt (by omega) (by omega)), show k = hx_P E from hk]
    exact ⟨μ, rfl, hx_rf _ _⟩
  | m + 1, k, μ, hk, hE, h0, ho => by
    have h8 := hE.1.1
    have b1 := hx_tmle hE.1 t p 8
    have b2 := hx_tmsle hE.1 t p k
    have b3 : k * 40000000000000000 ≤ 8 * 40000000000000000 := Nat.mul_le_mul_right _ (by omega)
    obtain ⟨μ1, e1, f1⟩ := hx_cIt d ht hW hp (i := k) (c := k + 1) (Or.inr ⟨rfl, by omega⟩) (v := hx_tm E t p 8 + hx_tms E t p k) (by omega) hE h0 ho
    have f1' : hx_fr hx_xZ μ μ1 := f1
    have q1 := hx_qCX (hx_xZq f1')
    obtain ⟨μ2, e2, f2⟩ := hx_cI2 d ht hW hp m (k + 1) μ1 (by omega) (hx_ECq q1 hE) (hx_SCq q1 (by omega) h0) (hx_oCZ f1' ho)
    refine ⟨μ2, ?_, hx_tr f1' f2⟩
    rw [e1, Nat.add_assoc, ← hx_tmS, e2]
theorem hx_chance (d : Nat) {μ : hs_M} {E : hx_Env} (hE : hx_EC μ E) {W : Nat} {t : hx_St} (ht : hx_tw (hx_P E) W t) (hW : W < 2 ^ 30) (h0 : hx_SC μ 0 t) {p : Nat} (hp : p < hx_P E) (ho : hx_oC μ 37 (hx_od E t)) : ∃ μ', hc_Future_chanceInTwo (d + 5) (nI p) μ = some (some (vL (lN (hx_tm E t p 8 + hx_tms E t p (hx_P E)))), μ') ∧ hx_fr hx_xZ μ μ' := by
  obtain ⟨μ1, e1, f1⟩ := hx_cIt d ht hW hp (i := 8) (c := 0) (Or.inl ⟨rfl, rfl⟩) (v := 0) (by omega) hE h0 ho
  have f1' : hx_fr hx_xZ μ μ1 := f1
  have q1 := hx_qCX (hx_xZq f1')
  obtain ⟨μ2, e2, f2⟩ := hx_cI2 d ht hW hp (hx_P E) 0 μ1 (by omega) (hx_ECq q1 hE) (hx_SCq q1 (by omega) h0) (hx_oCZ f1' ho)
  rw [show hx_tm E t p 8 + hx_tms E t p 0 = 0 + hx_tm E t p 8 by show _ + 0 = _; omega] at e2
  rw [hq_Future_chanceInTwo, show he_Future_chanceInTwo_5 (d + 4) (nI p) 0 0 μ = he_Future_chanceInTwo_5 (d + 4) (nI p) (lN 0) (nI 0) μ from rfl, e1, e2]
  exact ⟨μ2, rfl, hx_tr f1' f2⟩
/-! the reference's sum -/
def hx_yZ (a b i : Nat) : Prop := a = 54 ∨ a = 64 ∨ (b = 0 ∧ (a = 65 ∨ (a = 12 ∧ i = 27)))
theorem hx_yZq {μ μ' : hs_M} (f : hx_fr hx_yZ μ μ') : hx_fr hx_qR μ μ' := hx_mo (fun κ b i x => by unfold hx_yZ at x; unfold hx_qR; omega) f
theorem hx_o2R (d : Nat) {E : hx_Env} {W : Nat} {t : hx_St} (ht : hx_tw (hx_P E) W t) (hW : W < 2 ^ 30) {p : Nat} (hp : p < hx_P E) : ∀ (m k : Nat) (μ : hs_M), k + m = 9 → hx_ER μ E → hx_SR μ 45 0 t → hx_oR μ 63 (hx_od E t) → ∃ μ', he_M_odds_100 (d + 6) (nI p) (lN (hx_tms E t p k)) (nI k) μ = hs_bV (hc_M_entersFraction (d + 6) (lN (hx_tms E t p 9)) (10000000000000000 : Int64) μ') (fun μ1 => some (some (vI 0), μ1)) ∧ hx_fr hx_yZ μ μ'
  | 0, k, μ, hk, hE, hs, ho => by
    rw [hq_M_odds_100, if_pos (show (8 : Int32) < nI k from nI_lt (a := 8) (by omega) (by omega)), show k = 9 from hk]
    exact ⟨μ, rfl, hx_rf _ _⟩
  | m + 1, k, μ, hk, hE, hs, ho => by
    have h8 := hE.1.1
    have od := hx_odle hE.1 t k
    have go : ∀ μ1, hx_fr hx_yZ μ μ1 → ∃ μ', he_M_odds_182 (d + 6) (nI p) (lN (hx_tms E t p (k + 1))) (nI k) μ1 = hs_bV (hc_M_entersFraction (d + 6) (lN (hx_tms E t p 9)) (10000000000000000 : Int64) μ') (fun μ1 => some (some (vI 0), μ1)) ∧ hx_fr hx_yZ μ μ' := by
      intro μ1 f1
      have q1 := hx_qRY (hx_yZq f1)
      obtain ⟨μ2, e2, f2⟩ := hx_o2R d ht hW hp m (k + 1) μ1 (by omega) (hx_ERq q1 hE) (hx_SRq q1 hs) (fun i hi => by rw [f1.2 63 0 i (by unfold hx_yZ; omega)]; exact ho i hi)
      rw [hq_M_odds_182, nI_1]
      exact ⟨μ2, e2, hx_tr f1 f2⟩
    rw [hq_M_odds_100, if_neg (show ¬ (8 : Int32) < nI k from nI_nlt (a := 8) (by omega) (by omega)), if_pos (hx_in (by omega) (by omega)), nI_clamp (by omega), ho k (by omega)]
    by_cases z : 0 < hx_od E t k
    · rw [if_pos ((hx_l0 (by omega)).mpr z)]
      have hw := hx_oir hE.1 z
      obtain ⟨μ1, e1, f1, s1⟩ := hx_puts (d + 5) (κ := 65) (Or.inr rfl) hs
      have f1' : hx_fr hx_yZ μ μ1 := hx_mo (fun κ b i x => by unfold hx_yZ; omega) f1
      have E1 := hx_ERq (hx_qRY (hx_yZq f1')) hE
      obtain ⟨μ2, e2, f2, s2, _⟩ := hx_goes (d + 3) (κ := 65) (Or.inr (Or.inr rfl)) E1 hW ht s1 (if k = 8 then 0 else (1 : Int32) <<< (nI k &&& 31))
      rw [hx_osR hE.1 ht (by omega) z] at s2
      have f2' : hx_fr hx_yZ μ1 μ2 := hx_mo (fun κ b i x => by unfold hx_xG at x; unfold hx_yZ; omega) f2
      have E2 := hx_ERq (hx_qRY (hx_yZq f2')) E1
      obtain ⟨μ3, e3, f3, o3⟩ := hx_oddsM d (κ1 := 65) (κ2 := 64) (Or.inr rfl) (Or.inr rfl) E2 (hx_ftw h8 hW ht hw) s2
      have f3' : hx_fr hx_yZ μ2 μ3 := hx_mo (fun κ b i x => by unfold hx_yZ; omega) f3
      have f13 := hx_tr (hx_tr f1' f2') f3'
      have e63 : μ3.2 63 0 k = lN (hx_od E t k) := by
        rw [f13.2 63 0 k (by unfold hx_yZ; omega), ho k (by omega)]
      have e64 : μ3.2 64 0 p = lN (hx_od E (hx_os E t k) p) := o3 p (by omega)
      have ev : lN (hx_tms E t p k) + lN (hx_od E t k) * lN (hx_od E (hx_os E t k) p) = lN (hx_tms E t p (k + 1)) := by
        rw [lN_mul, lN_add]
        rfl
      have g := go μ3 f13
      rw [e1, hx_bV]
      by_cases c8 : k = 8
      · rw [if_pos c8] at e2
        rw [if_pos (by rw [c8]; rfl), e2, hx_bV, e3, hx_bV, if_pos (hx_in (by omega) (by omega)), if_pos (hx_in (by omega) (by omega)), nI_clamp (by omega), e63, e64, ev]
        exact g
      · rw [if_neg c8] at e2
        rw [if_neg (show ¬ nI k = (8 : Int32) from by rw [show (8 : Int32) = nI 8 from rfl, nI_eq (by omega) (by omega)]; exact c8), e2, hx_bV, e3, hx_bV, if_pos (hx_in (by omega) (by omega)), if_pos (hx_in (by omega) (by omega)), nI_clamp (by omega), e63, e64, ev]
        exact g
    · rw [if_neg (fun y => z ((hx_l0 (by omega)).mp y))]
      have g := go μ (hx_rf _ _)
      rw [hx_tmS, show hx_tm E t p k = 0 by unfold hx_tm; rw [show hx_od E t k = 0 by omega, Nat.zero_mul], Nat.add_zero] at g
      exact g
