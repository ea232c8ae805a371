/-! ===== E: the reference's will ===== -/
abbrev hx_K3 (κ : Nat) : Prop := κ = 45 ∨ κ = 46 ∨ κ = 65
theorem hx_hcS (t : hx_St) (n : Nat) : hx_hc t (n + 1) = hx_hc t n + (if t (45 + n) < 0 then 1 else 0) := rfl
theorem hx_holdL (d : Nat) {κ : Nat} (hκ : hx_K3 κ) {μ : hs_M} {t : hx_St} (hs : hx_SR μ κ 0 t) {L : Nat} (hL : L ≤ 12) (h20 : t 20 = nI L) : ∀ (m k : Nat), k + m = L → he_M_holding_4 (d + 1) κ (nI (hx_hc t k)) (nI k) μ = some (some (vI (nI (hx_hc t L))), μ)
  | 0, k, hk => by
    have e := hs 20 (by omega)
    rw [Nat.zero_add] at e
    rw [hq_M_holding_4 _ _ _ _ _ hκ, e, h20, if_neg (nI_nlt (by omega) (by omega)), show k = L from hk]
  | m + 1, k, hk => by
    have e := hs 20 (by omega)
    have e2 := hs (45 + k) (by omega)
    rw [Nat.zero_add] at e e2
    have ih := hx_holdL d hκ hs hL h20 m (k + 1) (by omega)
    rw [hx_hcS] at ih
    rw [hq_M_holding_4 _ _ _ _ _ hκ, e, h20, if_pos (nI_lt (by omega) (by omega)), show (45 : Int32) + nI k = nI (45 + k) from nI_add 45 k, if_pos (hx_in (by omega) (by omega)), nI_clamp (by omega), e2]
    by_cases a : t (45 + k) < 0
    · rw [if_pos a] at ih ⊢
      rw [hx_flag1, hx_bI, nI_1, nI_1]
      exact ih
    · rw [if_neg a] at ih ⊢
      rw [hx_flag0, hx_bI, nI_1, Int32.add_zero]
      exact ih
theorem hx_holdM (d : Nat) {κ : Nat} (hκ : hx_K3 κ) {μ : hs_M} {t : hx_St} (hs : hx_SR μ κ 0 t) {P W : Nat} (ht : hx_tw P W t) : hc_M_holding (d + 2) κ μ = some (some (vI (nI (hx_hold t))), μ) := by
  obtain ⟨L, hL, h20, _⟩ := ht.2.2.1
  rw [hq_M_holding _ _ _ hκ]
  unfold hx_hold
  rw [h20, nI_clamp (by omega)]
  exact hx_holdL d hκ hs hL h20 L 0 (by omega)
theorem hx_nl (a : Nat) : nI a = (OfNat.ofNat a : Int32) := rfl
theorem hx_thing (d : Nat) {κ : Nat} (hκ : hx_K3 κ) {μ : hs_M} {E : hx_Env} (hE : hx_ER μ E) {W : Nat} {t : hx_St} (ht : hx_tw (hx_P E) W t) (hs : hx_SR μ κ 0 t) {p a : Nat} (hp : p < hx_P E) (ha : a ≤ 8) : hc_M_thingOf (d + 3) κ (nI p) (nI a) μ = some (some (vI (hx_fc E t p a)), μ) := by
  have h8 : hx_P E ≤ 8 := hE.1.1
  have s : ∀ i, i < 117 → μ.1 κ 0 i = t i := by
    intro i hi
    have := hs i hi
    rw [Nat.zero_add] at this
    exact this
  have hcl : (nI p).toNatClampNeg = p := nI_clamp (by omega)
  have i1 : hs_in (nI p) 117 = true := hx_in (by omega) (by omega)
  have i2 : hs_in (nI p) 8 = true := hx_in (by omega) (by omega)
  have i3 : hs_in (8 + nI p) 117 = true := by
    rw [show (8 : Int32) + nI p = nI (8 + p) from nI_add 8 p]
    exact hx_in (by omega) (by omega)
  have c3 : (8 + nI p).toNatClampNeg = 8 + p := by
    rw [show (8 : Int32) + nI p = nI (8 + p) from nI_add 8 p]
    exact nI_clamp (by omega)
  rw [hq_M_thingOf _ _ _ _ _ hκ]
  have c : a = 0 ∨ a = 1 ∨ a = 2 ∨ a = 3 ∨ a = 4 ∨ a = 5 ∨ a = 6 ∨ a = 7 ∨ a = 8 := by omega
  rcases c with rfl | rfl | rfl | rfl | rfl | rfl | rfl | rfl | rfl
  · rw [if_pos (by decide)]
    rfl
  · rw [if_neg (by decide), if_pos (by decide), if_pos i1, hcl, s p (by omega)]
    rfl
  · rw [if_neg (by decide), if_neg (by decide), if_pos (by decide), if_pos i2, hcl, hE.2.2.1 p hp]
    rfl
  · rw [if_neg (by decide), if_neg (by decide), if_neg (by decide), if_pos (by decide), s 17 (by omega)]
    rcases hx_who ht h8 with ⟨w, _⟩ | ⟨w, q, hq, e⟩
    · rw [if_pos w]
      simp only [hx_fc, if_pos w]
      rfl
    · rw [if_neg w]
      simp only [hx_fc, if_neg w]
      rw [e, if_pos (hx_in (by omega) (by omega)), nI_clamp (by omega), s q (by omega)]
      rfl
  · rw [if_neg (by decide), if_neg (by decide), if_neg (by decide), if_neg (by decide), if_pos (by decide), s 17 (by omega)]
    rcases hx_who ht h8 with ⟨w, _⟩ | ⟨w, q, hq, e⟩
    · rw [if_pos w]
      simp only [hx_fc, if_pos w]
      rfl
    · rw [if_neg w]
      simp only [hx_fc, if_neg w]
      rw [e, if_pos (hx_in (by omega) (by omega)), nI_clamp (by omega), hE.2.2.1 q hq]
      rfl
  · rw [if_neg (by decide), if_neg (by decide), if_neg (by decide), if_neg (by decide), if_neg (by decide), if_pos (by decide), s 17 (by omega), s 18 (by omega)]
    by_cases w : t 17 < 0
    · rw [if_pos w]
      simp only [hx_fc, if_pos w]
      rfl
    · rw [if_neg w]
      simp only [hx_fc, if_neg w]
      rfl
  · rw [if_neg (by decide), if_neg (by decide), if_neg (by decide), if_neg (by decide), if_neg (by decide), if_neg (by decide), if_pos (by decide), hx_holdM d hκ hs ht]
    rfl
  · rw [if_neg (by decide), if_neg (by decide), if_neg (by decide), if_neg (by decide), if_neg (by decide), if_neg (by decide), if_neg (by decide), if_pos (by decide), if_pos i3, c3, s (8 + p) (by omega)]
    rfl
  · rw [if_neg (by decide), if_neg (by decide), if_neg (by decide), if_neg (by decide), if_neg (by decide), if_neg (by decide), if_neg (by decide), if_neg (by decide), s 19 (by omega)]
    rfl
theorem hx_work (d : Nat) {a : Nat} (ha : a ≤ 6) (x y : Int32) (μ : hs_M) : hc_M_worked (d + 2) (nI a) x y μ = some (some (vI (hx_cmb a x y)), μ) := by
  rw [hq_M_worked]
  have c : a = 0 ∨ a = 1 ∨ a = 2 ∨ a = 3 ∨ a = 4 ∨ a = 5 ∨ a = 6 := by omega
  rcases c with rfl | rfl | rfl | rfl | rfl | rfl | rfl
  · rw [if_pos (by decide), hx_flag1, hx_flag0]
    by_cases z : x < y
    · rw [if_pos z]
      simp only [hx_cmb, if_pos z]
      rfl
    · rw [if_neg z]
      simp only [hx_cmb, if_neg z]
      rfl
  · rw [if_neg (by decide), if_pos (by decide), hx_flag1, hx_flag0]
    by_cases z : y < x
    · rw [if_pos z]
      simp only [hx_cmb, if_pos z]
      rfl
    · rw [if_neg z]
      simp only [hx_cmb, if_neg z]
      rfl
  · rw [if_neg (by decide), if_neg (by decide), if_pos (by decide), hx_flag1, hx_flag0]
    by_cases z : x = y
    · rw [if_pos z]
      simp only [hx_cmb, if_pos z]
      rfl
    · rw [if_neg z]
      simp only [hx_cmb, if_neg z]
      rfl
  · rw [if_neg (by decide), if_neg (by decide), if_neg (by decide), if_pos (by decide)]
    rfl
  · rw [if_neg (by decide), if_neg (by decide), if_neg (by decide), if_neg (by decide), if_pos (by decide)]
    rfl
  · rw [if_neg (by decide), if_neg (by decide), if_neg (by decide), if_neg (by decide), if_neg (by decide), if_pos (by decide)]
    rfl
  · rw [if_neg (by decide), if_neg (by decide), if_neg (by decide), if_neg (by decide), if_neg (by decide), if_neg (by decide)]
    by_cases z : y = 0
    · rw [if_pos z]
      simp only [hx_cmb, if_pos z]
      rfl
    · rw [if_neg z, if_neg z]
      simp only [hx_cmb, if_neg z]
      rfl
theorem hx_valM (d : Nat) {κ : Nat} (hκ : hx_K3 κ) {E : hx_Env} {W : Nat} {t : hx_St} (ht : hx_tw (hx_P E) W t) {p n : Nat} (hp : p < hx_P E) {c : Nat → Int32} (hn : n ≤ 80) {v : Int32} (hcr : ∀ k, k < n → hx_cR (c k)) : ∀ (m k : Nat) (st : List Int32) (μ : hs_M), k + m = n → hx_ER μ E → hx_SR μ κ 0 t → μ.1 12 0 24 = nI n → (∀ k, μ.1 52 0 k = c k) → hx_stk μ 54 st → st.length ≤ k → hx_rn (hx_tR (hx_fc E t p)) c m k st = some [v] → ∃ μ', he_M_willOf_14 (d + 3) κ (nI p) (nI st.length) (nI k) μ = some (some (vI v), μ') ∧ hx_fr hx_xV μ μ'
  | 0, k, st, μ, hk, hE, hs, hz, hc, hst, hl, hr => by
    rw [hq_M_willOf_14 _ _ _ _ _ _ hκ, hz, if_neg (nI_nlt (by omega) (by omega))]
    have e : st = [v] := Option.some.inj hr
    subst e
    refine ⟨μ, ?_, hx_rf _ _⟩
    have := hst.1
    rw [List.length_nil] at this
    rw [this]
  | m + 1, k, st, μ, hk, hE, hs, hz, hc, hst, hl, hr => by
    have go : ∀ (i : Nat) (x : Int32) (st' : List Int32), hx_stk (hs_wI μ 54 0 i x) 54 st' → st'.length ≤ k + 1 → hx_rn (hx_tR (hx_fc E t p)) c m (k + 1) st' = some [v] → ∃ μ', he_M_willOf_139 (d + 3) κ (nI p) (nI st'.length) (nI k) (hs_wI μ 54 0 i x) = some (some (vI v), μ') ∧ hx_fr hx_xV μ μ' := by
      intro i x st' h1 h2 h3
      have f : hx_fr hx_xV μ (hs_wI μ 54 0 i x) := hx_wr (hx_rf _ _) x rfl
      rw [hq_M_willOf_139 _ _ _ _ _ _ hκ, nI_1]
      obtain ⟨μ', e, f'⟩ := hx_valM d hκ ht hp hn hcr m (k + 1) st' _ (by omega) (hx_ERf f (by intro κ i h x; unfold hx_rF at h; unfold hx_xV at x; omega) hE) (hx_SRf f (by intro i h x; unfold hx_xV at x; unfold hx_K3 at hκ; omega) hs) (by rw [hx_rd, if_neg (by omega), hz]) (by intro k; rw [hx_rd, if_neg (by omega), hc]) h1 h2 h3
      exact ⟨μ', e, hx_tr f f'⟩
    rw [hq_M_willOf_14 _ _ _ _ _ _ hκ, hz, if_pos (nI_lt (by omega) (by omega)), if_pos (hx_in (by omega) (by omega)), nI_clamp (by omega), hc]
    unfold hx_rn at hr
    obtain ⟨st', e1, hr⟩ := Option.bind_eq_some_iff.mp hr
    unfold hx_tR at e1
    have hck := hcr k (by omega)
    by_cases b : c k = 3000
    · rw [if_pos b] at e1 ⊢
      unfold hx_un at e1
      rcases st with _ | ⟨x, l⟩
      · cases e1
      · have e := Option.some.inj e1
        subst e
        rw [List.length_cons] at hl ⊢
        rw [nI_pred, if_pos (hx_in (by omega) (by omega)), if_pos (hx_in (by omega) (by omega)), nI_clamp (by omega), hst.1]
        exact go _ _ (-x :: l) (hx_stkp _ hst.2 rfl) (by rw [List.length_cons]; omega) hr
    · rw [if_neg b] at e1 ⊢
      by_cases a : c k < 2000
      · rw [if_pos a] at e1 ⊢
        rw [if_pos (hx_in (by omega) (by omega)), nI_clamp (by omega), nI_1]
        by_cases b2 : c k < 1000
        · rw [if_pos b2] at e1 ⊢
          have e := Option.some.inj e1
          subst e
          exact go _ _ _ (hx_stkp _ hst rfl) (by rw [List.length_cons]; omega) hr
        · rw [if_neg b2] at e1 ⊢
          rcases hck with z | ⟨q, hq, z⟩ | ⟨q, hq, z⟩ | z
          · exact absurd z b2
          · have e9 : c k - 1000 = nI q := by
              rw [z, show (1000 : Int32) = nI 1000 from rfl, pk_sub (by omega), Nat.add_sub_cancel_left]
            rw [e9] at e1 ⊢
            rw [nI_clamp (by omega)] at e1
            rw [hx_thing d hκ hE ht hs hp hq, hx_bI, if_pos (hx_in (by omega) (by omega))]
            have e := Option.some.inj e1
            subst e
            exact go _ _ _ (hx_stkp _ hst rfl) (by rw [List.length_cons]; omega) hr
          · rw [z] at a
            exact absurd a (nI_nlt (b := 2000) (by omega) (by omega))
          · exact absurd z b
      · rw [if_neg a] at e1 ⊢
        rcases hck with z | ⟨q, hq, z⟩ | ⟨q, hq, z⟩ | z
        · exfalso
          apply a
          rw [hx_li] at z ⊢
          have e1 : (1000 : Int32).toInt = 1000 := by decide
          have e2 : (2000 : Int32).toInt = 2000 := by decide
          omega
        · exfalso
          apply a
          rw [z]
          exact nI_lt (b := 2000) (by omega) (by omega)
        · have e9 : c k - 2000 = nI q := by
            rw [z, show (2000 : Int32) = nI 2000 from rfl, pk_sub (by omega), Nat.add_sub_cancel_left]
          rw [e9, nI_clamp (by omega)] at e1
          unfold hx_bi at e1
          rcases st with _ | ⟨y, _ | ⟨x, l⟩⟩
          · cases e1
          · cases e1
          · have e := Option.some.inj e1
            subst e
            rw [List.length_cons, List.length_cons] at hl ⊢
            rw [show hs_ic (-1) = (-1 : Int32) from by decide, pk_m1, hq_M_willOf_71 _ _ _ _ _ _ _ hκ, nI_pred, if_pos (hx_in (by omega) (by omega)), if_pos (hx_in (by omega) (by omega)), nI_clamp (by omega), nI_clamp (by omega), e9, hx_work _ hq, hx_bI, if_pos (hx_in (by omega) (by omega))]
            have h1 := hst.1
            rw [List.length_cons] at h1
            rw [h1, hst.2.1]
            exact go _ _ (_ :: l) (hx_stkp _ hst.2.2 rfl) (by rw [List.length_cons]; omega) hr
        · exact absurd z b
theorem hx_willOf (d : Nat) {κ : Nat} (hκ : hx_K3 κ) {μ : hs_M} {E : hx_Env} (hE : hx_ER μ E) {W : Nat} {t : hx_St} (ht : hx_tw (hx_P E) W t) (hs : hx_SR μ κ 0 t) {p : Nat} (hp : p < hx_P E) : ∃ μ', hc_M_willOf (d + 4) κ (nI p) μ = some (some (vI (hx_ww E t p)), μ') ∧ hx_fr hx_xV μ μ' := by
  obtain ⟨n, h8, h9, h10, h11⟩ := hE.2.2.2.2.2.2.2.2
  rw [hq_M_willOf _ _ _ _ hκ, h9]
  rcases h11 with ⟨z, h⟩ | ⟨z, h⟩
  · subst z
    rw [if_pos nI_0]
    refine ⟨μ, ?_, hx_rf _ _⟩
    unfold hx_ww
    rw [h]
  · rw [if_neg (nI_ne0 z (by omega))]
    exact hx_valM d hκ ht hp h8 h10 n 0 [] μ (by omega) hE hs h9 (fun _ => rfl) trivial (Nat.le_refl 0) (h _)
/-- who wills, as bits -/
def hx_wb (E : hx_Env) (t : hx_St) : Nat → Int32
  | 0 => 0
  | n + 1 => if bt (t 16) n = true ∧ hx_ww E t n ≠ 0 then hx_wb E t n ||| ((1 : Int32) <<< (nI n &&& 31)) else hx_wb E t n ||| 0
theorem hx_wbt (E : hx_Env) (t : hx_St) {i : Nat} (hi : i < 32) : ∀ n, n ≤ 32 → bt (hx_wb E t n) i = (decide (i < n) && (bt (t 16) i && decide (hx_ww E t i ≠ 0)))
  | 0, _ => by
    rw [decide_eq_false (by omega), Bool.false_and]
    exact b_0 i
  | n + 1, h => by
    have ih := hx_wbt E t hi n (by omega)
    unfold hx_wb
    by_cases e : i = n
    · subst e
      rw [decide_eq_false (by omega), Bool.false_and] at ih
      rw [decide_eq_true (by omega), Bool.true_and]
      by_cases c : bt (t 16) i = true ∧ hx_ww E t i ≠ 0
      · rw [if_pos c, b_or, hx_one hi hi, decide_eq_true rfl, Bool.or_true, c.1, decide_eq_true c.2]
        rfl
      · rw [if_neg c, b_or, b_0, ih]
        by_cases c1 : bt (t 16) i = true
        · rw [decide_eq_false (fun x => c ⟨c1, x⟩), Bool.and_false]
          rfl
        · rw [Bool.not_eq_true] at c1
          rw [c1]
          rfl
    · have e2 : decide (i < n + 1) = decide (i < n) := by
        by_cases l : i < n
        · rw [decide_eq_true l, decide_eq_true (by omega)]
        · rw [decide_eq_false l, decide_eq_false (by omega)]
      rw [e2, ← ih]
      split
      · rw [b_or, hx_one (by omega) hi, decide_eq_false e, Bool.or_false]
      · rw [b_or, b_0, Bool.or_false]
theorem hx_willL (d : Nat) {κ : Nat} (hκ : hx_K3 κ) {E : hx_Env} {W : Nat} {t : hx_St} (ht : hx_tw (hx_P E) W t) : ∀ (m k : Nat) (μ : hs_M), k + m = hx_P E → hx_ER μ E → hx_SR μ κ 0 t → ∃ μ', he_M_willing_4 (d + 4) κ (hx_wb E t k) (nI k) μ = some (some (vI (hx_wb E t (hx_P E))), μ') ∧ hx_fr hx_xV μ μ'
  | 0, k, μ, hk, hE, hs => by
    have h8 : hx_P E ≤ 8 := hE.1.1
    rw [hq_M_willing_4 _ _ _ _ _ hκ, hx_rP hE, if_neg (nI_nlt (by omega) (by omega)), show k = hx_P E from hk]
    exact ⟨μ, rfl, hx_rf _ _⟩
  | m + 1, k, μ, hk, hE, hs => by
    have h8 : hx_P E ≤ 8 := hE.1.1
    have s16 := hs 16 (by omega)
    rw [Nat.zero_add] at s16
    rw [hq_M_willing_4 _ _ _ _ _ hκ, hx_rP hE, if_pos (nI_lt (by omega) (by omega)), s16, hx_has _ _ (by omega), hx_bI, hx_tn0, nI_1]
    have ih := hx_willL d hκ ht m (k + 1)
    by_cases a : bt (t 16) k = true
    · rw [if_pos a]
      obtain ⟨μ1, e1, f1⟩ := hx_willOf d hκ hE ht hs (p := k) (by omega)
      have hE1 := hx_ERf f1 (by intro κ i h x; unfold hx_rF at h; unfold hx_xV at x; omega) hE
      have hs1 : hx_SR μ1 κ 0 t := hx_SRf f1 (by intro i h x; unfold hx_xV at x; unfold hx_K3 at hκ; omega) hs
      obtain ⟨μ2, e2, f2⟩ := ih μ1 (by omega) hE1 hs1
      refine ⟨μ2, ?_, hx_tr f1 f2⟩
      rw [e1, hx_bI, ← e2]
      by_cases b : hx_ww E t k = 0
      · rw [if_pos b]
        conv => rhs; unfold hx_wb
        rw [if_neg (by rintro ⟨_, x⟩; exact x b)]
      · rw [if_neg b]
        conv => rhs; unfold hx_wb
        rw [if_pos ⟨a, b⟩]
    · rw [if_neg a]
      obtain ⟨μ2, e2, f2⟩ := ih μ (by omega) hE hs
      refine ⟨μ2, ?_, f2⟩
      rw [← e2]
      conv => rhs; unfold hx_wb
      rw [if_neg (by rintro ⟨x, _⟩; exact a x)]
theorem hx_willing (d : Nat) {κ : Nat} (hκ : hx_K3 κ) {μ : hs_M} {E : hx_Env} (hE : hx_ER μ E) {W : Nat} {t : hx_St} (ht : hx_tw (hx_P E) W t) (hs : hx_SR μ κ 0 t) : ∃ μ', hc_M_willing (d + 5) κ μ = some (some (vI (hx_wb E t (hx_P E))), μ') ∧ hx_fr hx_xV μ μ' := by
  rw [hq_M_willing _ _ _ hκ]
  exact hx_willL d hκ ht (hx_P E) 0 μ (by omega) hE hs
