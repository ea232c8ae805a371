/-! ===== E: cakes: bribe, starve ===== -/
theorem hx_SCS {μ μ' : hs_M} (f : hx_fr (hx_xS 36) μ μ') {t : hx_St} (h : hx_SC μ 0 t) : hx_SC μ' 0 t := hx_SCq (hx_qCX (hx_xSq (j := 36) (by omega) f)) (by omega) h
theorem hx_xSX {μ μ' : hs_M} (f : hx_fr (hx_xS 36) μ μ') : hx_fr hx_qX μ μ' := hx_qCX (hx_xSq (j := 36) (by omega) f)
noncomputable def hx_bok (E : hx_Env) (t : hx_St) (p n k : Nat) : Bool := decide (hx_by E 255 (hx_fd t p (nI k)) n 17 = nI p)
theorem hx_bri (d : Nat) {E : hx_Env} {W : Nat} {s : hx_St} (ht : hx_tw (hx_P E) W s) {n : Nat} (hn : W + n < 2 ^ 30) (x1 x3 x4 : Int32) : ∀ (m k : Nat) (μ : hs_M), k + m = n → hx_EC μ E → hx_SC μ 36 (hx_by E 255 s k) → ∃ μ', he_Trials_cakesToServe_25 (d + 4) x1 (nI n) x3 x4 (nI k) μ = he_Trials_cakesToServe_25 (d + 4) x1 (nI n) x3 x4 (nI n) μ' ∧ hx_fr (hx_xS 36) μ μ' ∧ hx_SC μ' 36 (hx_by E 255 s n)
  | 0, k, μ, hk, hE, hs => by
    have e : k = n := hk
    subst e
    exact ⟨μ, rfl, hx_rf _ _, hs⟩
  | m + 1, k, μ, hk, hE, hs => by
    have h8 := hE.1.1
    obtain ⟨μ1, e1, f1, s1, _⟩ := hx_pass d hE (by omega) (hx_bytw h8 255 ht k (by omega)) hs 0 255
    rw [← hx_byS] at s1
    obtain ⟨μ2, e2, f2, s2⟩ := hx_bri d ht hn x1 x3 x4 m (k + 1) μ1 (by omega) (hx_ECS f1 hE) s1
    refine ⟨μ2, ?_, hx_tr f1 f2, s2⟩
    rw [← e2]
    conv => lhs; rw [hq_Trials_cakesToServe_25]
    rw [if_pos (nI_lt (by omega) (by omega)), e1, hx_bV, nI_1]
/-- a row told only if there is one -/
def hx_orC (μ μ' : hs_M) (v : Nat → Int64) : Option Nat → Prop
  | none => hx_fr hx_qC μ μ'
  | some k => hx_fr hx_qX μ μ' ∧ hx_rwC μ' [v k]
def hx_orR (μ μ' : hs_M) (v : Nat → Int64) : Option Nat → Prop
  | none => hx_fr hx_qR μ μ'
  | some k => hx_fr hx_qY μ μ' ∧ hx_rwR μ' [v k]
theorem hx_orCt {μ μ1 μ' : hs_M} {v : Nat → Int64} (f : hx_fr hx_qC μ μ1) {o : Option Nat} (h : hx_orC μ1 μ' v o) : hx_orC μ μ' v o := by
  cases o with
  | none => exact hx_tr f h
  | some k => exact ⟨hx_tr (hx_qCX f) h.1, h.2⟩
theorem hx_orRt {μ μ1 μ' : hs_M} {v : Nat → Int64} (f : hx_fr hx_qR μ μ1) {o : Option Nat} (h : hx_orR μ1 μ' v o) : hx_orR μ μ' v o := by
  cases o with
  | none => exact hx_tr f h
  | some k => exact ⟨hx_tr (hx_qRY f) h.1, h.2⟩
theorem hx_orX {μ μ' : hs_M} {v : Nat → Int64} {o : Option Nat} (h : hx_orC μ μ' v o) : hx_fr hx_qX μ μ' := by
  cases o with
  | none => exact hx_qCX h
  | some k => exact h.1
theorem hx_Iqo {n : Nat} {E : hx_Env} {t : hx_St} {μ μ1 μ2 : hs_M} (h : hx_I n E t μ) {v : Nat → Int64} {o : Option Nat} (h1 : hx_orC μ μ1 v o) (h2 : hx_orR μ1 μ2 v o) : hx_I (n + 1) E t μ2 := by
  cases o with
  | none => exact hx_Iq0 h h1 h2
  | some k => exact hx_Iq1 h h1.1 h1.2 h2.1 h2.2
noncomputable def hx_bv (E : hx_Env) (t : hx_St) (p n k : Nat) : Int64 := (hx_by E 255 (hx_fd t p (nI k)) n (8 + p) - t (8 + p)).toInt64
theorem hx_brC' (d : Nat) {E : hx_Env} {W : Nat} {t : hx_St} (ht : hx_tw (hx_P E) W t) {n : Nat} (hn : W + n < 2 ^ 30) (h60 : n ≤ 60) {p : Nat} (hp : p < hx_P E) {l : Nat} (hl : l ≤ 999) : ∀ (m k : Nat) (μ : hs_M), k + m = l + 1 → hx_EC μ E → hx_SC μ 0 t → ∃ μ', he_Trials_cakesToServe_9 (d + 4) (nI p) (nI n) (nI l) (nI k) μ = some (some (vI (hx_ov (hx_f1 (hx_bok E t p n) m k))), μ') ∧ hx_orC μ μ' (hx_bv E t p n) (hx_f1 (hx_bok E t p n) m k)
  | 0, k, μ, hk, hE, h0 => by
    rw [hq_Trials_cakesToServe_9, if_pos (nI_lt (by omega) (by omega))]
    exact ⟨μ, rfl, hx_rf _ _⟩
  | m + 1, k, μ, hk, hE, h0 => by
    have h8 := hE.1.1
    obtain ⟨μ1, e1, f1, s1⟩ := hx_feast (d + 1) h0 (p := p) (by omega) (nI k)
    obtain ⟨μ2, e2, f2, s2⟩ := hx_bri d (hx_fdtw h8 ht hp (nI k)) hn (nI p) (nI l) (nI k) n 0 μ1 (by omega) (hx_ECS f1 hE) s1
    have f12 := hx_tr f1 f2
    have q := hx_xSq (j := 36) (by omega) f12
    have S2 := hx_SCS f12 h0
    rw [hq_Trials_cakesToServe_9, if_neg (nI_nlt (by omega) (by omega)), e1, hx_bV, show he_Trials_cakesToServe_25 (d + 4) (nI p) (nI n) (nI l) (nI k) 0 μ1 = he_Trials_cakesToServe_25 (d + 4) (nI p) (nI n) (nI l) (nI k) (nI 0) μ1 from rfl, e2, hq_Trials_cakesToServe_25, if_neg (nI_nlt (by omega) (by omega)), s2.2.2.2.1, hx_f1S]
    by_cases c : hx_by E 255 (hx_fd t p (nI k)) n 17 = nI p
    · obtain ⟨μ3, e3, f3, r3⟩ := hx_begin (d + 2) μ2 (hx_bv E t p n k)
      rw [if_pos c, if_pos (show hx_bok E t p n k = true from decide_eq_true c), if_pos (hx_in (by omega) (by omega)), if_pos (hx_in (by omega) (by omega)), nI_clamp (by omega), s2.2.1 p (by omega), S2.2.1 p (by omega)]
      unfold hx_bv at e3
      rw [e3, hx_bV]
      exact ⟨μ3, rfl, hx_tr (hx_qCX q) (hx_xRq f3), r3⟩
    · obtain ⟨μ3, e3, f3⟩ := hx_brC' d ht hn h60 hp hl m (k + 1) μ2 (by omega) (hx_ECS f12 hE) S2
      rw [if_neg c, if_neg (show ¬ hx_bok E t p n k = true by unfold hx_bok; rw [decide_eq_false c]; decide), nI_1, e3]
      exact ⟨μ3, rfl, hx_orCt q f3⟩
theorem hx_brR (d : Nat) {E : hx_Env} {W : Nat} {t : hx_St} (ht : hx_tw (hx_P E) W t) {n : Nat} (hn : W + n < 2 ^ 30) (h60 : n ≤ 60) {p : Nat} (hp : p < hx_P E) : ∀ (m k : Nat) (μ : hs_M), k + m = 1000 → hx_ER μ E → hx_SR μ 45 0 t → ∃ μ', he_M_bribe_29 (d + 6) (nI p) (nI n) (nI k) μ = some (some (vI (hx_ov (hx_f1 (hx_bok E t p n) m k))), μ') ∧ hx_orR μ μ' (hx_bv E t p n) (hx_f1 (hx_bok E t p n) m k)
  | 0, k, μ, hk, hE, hs => by
    rw [hq_M_bribe_29, if_pos (show (999 : Int32) < nI k from nI_lt (a := 999) (by omega) (by omega))]
    exact ⟨μ, rfl, hx_rf _ _⟩
  | m + 1, k, μ, hk, hE, hs => by
    have h8 := hE.1.1
    obtain ⟨μ1, e1, f1, s1, g1⟩ := hx_stWith (d + 3) hs (p := p) (by omega) (nI k)
    obtain ⟨μ2, e2, f2, s2, g2⟩ := hx_goBy d (hx_ERN f1 hE) (hx_nv0 h8) (hx_fdtw h8 ht hp (nI k)) s1 g1 hn
    have f12 := hx_tr f1 f2
    have q := hx_yNq f12
    rw [hq_M_bribe_29, if_neg (show ¬ (999 : Int32) < nI k from nI_nlt (a := 999) (by omega) (by omega)), e1, hx_bV, e2, hx_bV, hx_SR0 s2 (by omega), hx_f1S]
    by_cases c : hx_by E 255 (hx_fd t p (nI k)) n 17 = nI p
    · have f0 : hx_fr hx_yR μ2 (hs_wI μ2 12 0 1 0) := hx_wr (hx_rf _ _) _ (by unfold hx_yR; omega)
      obtain ⟨μ3, e3, f3, r3⟩ := hx_ent (d + 5) (hx_rwz μ2) (by decide) (hx_bv E t p n k)
      rw [if_pos c, if_pos (show hx_bok E t p n k = true from decide_eq_true c), if_pos (hx_in (by omega) (by omega)), nI_clamp (by omega), g2 p (by omega)]
      unfold hx_bv at e3
      rw [e3, hx_bV]
      exact ⟨μ3, rfl, hx_tr (hx_qRY q) (hx_yRq (hx_tr f0 f3)), r3⟩
    · obtain ⟨μ3, e3, f3⟩ := hx_brR d ht hn h60 hp m (k + 1) μ2 (by omega) (hx_ERN f12 hE) (hx_SRq (hx_qRY q) hs)
      rw [if_neg c, if_neg (show ¬ hx_bok E t p n k = true by unfold hx_bok; rw [decide_eq_false c]; decide), nI_1, e3]
      exact ⟨μ3, rfl, hx_orRt q f3⟩
theorem hx_bribe (d : Nat) {n : Nat} (hn : n ≤ 512) {E : hx_Env} {t : hx_St} {μ : hs_M} (h : hx_I n E t μ) (x y : Int32) : hx_A n μ (hc_H_bribe (d + 7) x y) (hc_M_bribe (d + 7) x y) := by
  have h8 := h.1.1.1
  have h0 := hx_I0 (hx_Ia h)
  have ec : ∀ A B : Option (Option hs_V × hs_M), (if y < 1 then A else if 60 < y then A else B) = if hx_rg 1 60 y = true then B else A := fun A B => hx_if2 y 1 60 A B
  have er : hx_rg (Int64.toInt 1) (Int64.toInt 60) y = hx_rg 1 60 y := rfl
  by_cases c : hx_isA (hx_P E) t x = true
  · by_cases c2 : hx_rg 1 60 y = true
    · obtain ⟨k, hk1, hk, ey⟩ := hx_rg1 (n := 60) c2
      obtain ⟨p, hp, ex, al⟩ := hx_isAn h8 c
      obtain ⟨wt, hw1, hw9, ew⟩ := h.2.2.2.2.1.2.2.2 p hp
      obtain ⟨μ1, e1, o1⟩ := hx_brC' (d + 1) h.2.2.2.2.1 (n := k) (by omega) hk hp (l := 999 - wt) (by omega) (999 - wt + 1) 0 μ (by omega) h.1 h.2.2.1.1
      have same : hx_f1 (hx_bok E t p k) (999 - wt + 1) 0 = hx_f1 (hx_bok E t p k) 1000 0 := by
        have := hx_f1x (ok := hx_bok E t p k) (999 - wt + 1) 0 wt (by
          intro j h1 h2 h3
          refine ⟨999 - wt, by omega, by omega, ?_⟩
          unfold hx_bok at h3 ⊢
          rw [hx_fdx (b := j) ew hw1 hw9 (by omega) (by omega) (by omega) (by omega)]
          exact h3)
        rw [show 999 - wt + 1 + wt = 1000 by omega] at this
        exact this.symm
      rw [same] at e1 o1
      have hI := hx_I0 (hx_Ir h (hx_orX o1))
      obtain ⟨μ2, e2, o2⟩ := hx_brR d h.2.2.2.2.1 (n := k) (by omega) hk hp 1000 0 _ (by omega) hI.2.1 hI.2.2.2.1
      refine ⟨hx_ov (hx_f1 (hx_bok E t p k) 1000 0), μ1, μ2, ?_, ?_, E, t, hx_Iqo h o1 (hx_orRt (hx_wr (hx_rf _ _) _ (by unfold hx_qR; omega)) o2)⟩
      · rw [hq_H_bribe, hx_there _ h.1 h.2.2.1.1, hx_bI, hx_tn0, if_pos c, hq_H_bribe_19, ec, if_pos c2, ex, ey, hq_Trials_cakesToServe, hx_worth _ h.2.2.1.1 (by omega) hw1 hw9 ew, hx_bI, show he_Trials_cakesToServe_9 (d + 5) (nI p) (nI k) (nI (999 - wt)) 0 μ = he_Trials_cakesToServe_9 (d + 5) (nI p) (nI k) (nI (999 - wt)) (nI 0) μ from rfl, e1, hx_bI]
      · rw [hq_M_bribe, hx_isAM _ hI.2.1 hI.2.2.2.1, hx_bI, hx_tn0, if_pos c, hx_inR, hx_bI, hx_tn0, er, if_pos c2, ex, ey]
        exact e2
    · apply hx_Anone h (v := -1)
      · rw [hq_H_bribe, hx_there _ h.1 h.2.2.1.1, hx_bI, hx_tn0, if_pos c, hq_H_bribe_19, ec, if_neg c2]
      · rw [hq_M_bribe, hx_isAM _ h0.2.1 h0.2.2.2.1, hx_bI, hx_tn0, if_pos c, hx_inR, hx_bI, hx_tn0, er, if_neg c2, hq_M_bribe_25]
  · apply hx_Anone h (v := -1)
    · rw [hq_H_bribe, hx_there _ h.1 h.2.2.1.1, hx_bI, hx_tn0, if_neg c, hq_H_bribe_19]
    · rw [hq_M_bribe, hx_isAM _ h0.2.1 h0.2.2.2.1, hx_bI, hx_tn0, if_neg c, hq_M_bribe_25]
/-! starve -/
noncomputable def hx_sok (E : hx_Env) (t : hx_St) (p n k : Nat) : Bool := decide (hx_cn E 255 (hx_fd t p (-nI k)) p n = 0)
theorem hx_sti (d : Nat) {E : hx_Env} {W : Nat} {s t : hx_St} (ht : hx_tw (hx_P E) W s) {n : Nat} (hn : W + n < 2 ^ 30) (h60 : n ≤ 60) {p : Nat} (hp : p < 8) (hst : s (8 + p) = t (8 + p)) (x3 : Int32) : ∀ (m k : Nat) (μ : hs_M), k + m = n → hx_EC μ E → hx_SC μ 0 t → hx_SC μ 36 (hx_by E 255 s k) → ∃ μ', he_Trials_ouncesToMiss_25 (d + 4) (nI p) (nI n) x3 (nI k) μ = (if hx_cn E 255 s p n = 0 then some (some (vI x3), μ') else he_Trials_ouncesToMiss_2 (d + 4) (nI p) (nI n) (x3 + 1) μ') ∧ hx_fr (hx_xS 36) μ μ' := by
  have key : ∀ (k : Nat) (μ : hs_M), k ≤ n → hx_EC μ E → hx_SC μ 0 t → hx_SC μ 36 (hx_by E 255 s k) → ((μ.1 25 36 p = μ.1 25 0 p) ↔ hx_cn E 255 s p k = 0) := by
    intro k μ hk hE h0 hs
    have e := hx_ctot hE.1.1 255 ht hp k (by omega)
    have cle := (hx_cnle E 255 s p 0 k).2
    rw [Nat.zero_add, show hx_cn E 255 s p 0 = 0 from rfl] at cle
    rw [hs.2.1 p hp, h0.2.1 p hp, ← hst]
    constructor
    · intro z
      rw [z, Int32.sub_self] at e
      exact ((nI_eq (a := 0) (by omega) (by omega)).mp e).symm
    · intro z
      rw [z] at e
      have : hx_by E 255 s k (8 + p) = hx_by E 255 s k (8 + p) - s (8 + p) + s (8 + p) := (Int32.sub_add_cancel _ _).symm
      rw [this, e]
      exact Int32.zero_add _
  have last : ∀ (k : Nat) (μ : hs_M), k ≤ n → hx_EC μ E → hx_SC μ 0 t → hx_SC μ 36 (hx_by E 255 s k) → (hx_cn E 255 s p k = 0 ↔ hx_cn E 255 s p n = 0) → ∃ μ', he_Trials_ouncesToMiss_73 (d + 4) (nI p) (nI n) x3 μ = (if hx_cn E 255 s p n = 0 then some (some (vI x3), μ') else he_Trials_ouncesToMiss_2 (d + 4) (nI p) (nI n) (x3 + 1) μ') ∧ hx_fr (hx_xS 36) μ μ' := by
    intro k μ hk hE h0 hs hz
    refine ⟨μ, ?_, hx_rf _ _⟩
    rw [hq_Trials_ouncesToMiss_73, if_pos (hx_in hp (by omega)), if_pos (hx_in hp (by omega)), nI_clamp (by omega)]
    by_cases c : hx_cn E 255 s p k = 0
    · rw [if_pos ((key k μ hk hE h0 hs).mpr c), if_pos (hz.mp c)]
    · rw [if_neg (fun y => c ((key k μ hk hE h0 hs).mp y)), if_neg (fun y => c (hz.mpr y))]
  intro m
  induction m with
  | zero =>
    intro k μ hk hE h0 hs
    have e : k = n := hk
    subst e
    rw [hq_Trials_ouncesToMiss_25, if_neg (nI_nlt (by omega) (by omega))]
    exact last k μ (by omega) hE h0 hs Iff.rfl
  | succ m ih =>
    intro k μ hk hE h0 hs
    have h8 := hE.1.1
    rw [hq_Trials_ouncesToMiss_25, if_pos (nI_lt (by omega) (by omega)), if_pos (hx_in hp (by omega)), if_pos (hx_in hp (by omega)), nI_clamp (by omega)]
    by_cases c : hx_cn E 255 s p k = 0
    · obtain ⟨μ1, e1, f1, s1, _⟩ := hx_pass d hE (by omega) (hx_bytw h8 255 ht k (by omega)) hs 0 255
      rw [← hx_byS] at s1
      obtain ⟨μ2, e2, f2⟩ := ih (k + 1) μ1 (by omega) (hx_ECS f1 hE) (hx_SCS f1 h0) s1
      refine ⟨μ2, ?_, hx_tr f1 f2⟩
      rw [if_pos ((key k μ (by omega) hE h0 hs).mpr c), e1, hx_bV, nI_1, e2]
    · rw [if_neg (fun y => c ((key k μ (by omega) hE h0 hs).mp y))]
      apply last k μ (by omega) hE h0 hs
      have := (hx_cnle E 255 s p k (m + 1)).1
      rw [hk] at this
      omega
theorem hx_stC (d : Nat) {E : hx_Env} {W : Nat} {t : hx_St} (ht : hx_tw (hx_P E) W t) {n : Nat} (hn : W + n < 2 ^ 30) (h60 : n ≤ 60) {p : Nat} (hp : p < hx_P E) {w : Nat} (hw : w ≤ 999) (ew : t p = nI w) : ∀ (m k : Nat) (μ : hs_M), k + m = w → hx_EC μ E → hx_SC μ 0 t → ∃ μ', he_Trials_ouncesToMiss_2 (d + 4) (nI p) (nI n) (nI k) μ = some (some (vI (hx_ov (hx_f1 (hx_sok E t p n) m k))), μ') ∧ hx_fr (hx_xS 36) μ μ'
  | 0, k, μ, hk, hE, h0 => by
    have h8 := hE.1.1
    rw [hq_Trials_ouncesToMiss_2, if_pos (hx_in (by omega) (by omega)), nI_clamp (by omega), h0.1 p (by omega), ew, if_neg (nI_nlt (by omega) (by omega))]
    exact ⟨μ, rfl, hx_rf _ _⟩
  | m + 1, k, μ, hk, hE, h0 => by
    have h8 := hE.1.1
    obtain ⟨μ1, e1, f1, s1⟩ := hx_feast (d + 1) h0 (p := p) (by omega) (-nI k)
    obtain ⟨μ2, e2, f2⟩ := hx_sti d (t := t) (hx_fdtw h8 ht hp (-nI k)) hn h60 (p := p) (by omega) (hx_fdO _ _ (by omega)) (nI k) n 0 μ1 (by omega) (hx_ECS f1 hE) (hx_SCS f1 h0) s1
    have f12 := hx_tr f1 f2
    obtain ⟨μ3, e3, f3⟩ := hx_stC d ht hn h60 hp hw ew m (k + 1) μ2 (by omega) (hx_ECS f12 hE) (hx_SCS f12 h0)
    rw [hq_Trials_ouncesToMiss_2, if_pos (hx_in (by omega) (by omega)), nI_clamp (by omega), h0.1 p (by omega), ew, if_pos (nI_lt (by omega) (by omega)), e1, hx_bV, show he_Trials_ouncesToMiss_25 (d + 4) (nI p) (nI n) (nI k) 0 μ1 = he_Trials_ouncesToMiss_25 (d + 4) (nI p) (nI n) (nI k) (nI 0) μ1 from rfl, e2, nI_1, hx_f1S]
    by_cases c : hx_cn E 255 (hx_fd t p (-nI k)) p n = 0
    · rw [if_pos c, if_pos (show hx_sok E t p n k = true from decide_eq_true c)]
      exact ⟨μ2, rfl, f12⟩
    · rw [if_neg c, if_neg (show ¬ hx_sok E t p n k = true by unfold hx_sok; rw [decide_eq_false c]; decide), e3]
      exact ⟨μ3, rfl, hx_tr f12 f3⟩
theorem hx_stR (d : Nat) {E : hx_Env} {W : Nat} {t : hx_St} (ht : hx_tw (hx_P E) W t) {n : Nat} (hn : W + n < 2 ^ 30) (h60 : n ≤ 60) {p : Nat} (hp : p < hx_P E) : ∀ (m k : Nat) (μ : hs_M), k + m = 1000 → hx_ER μ E → hx_SR μ 45 0 t → ∃ μ', he_M_starve_24 (d + 6) (nI p) (nI n) (nI k) μ = some (some (vI (hx_ov (hx_f1 (hx_sok E t p n) m k))), μ') ∧ hx_fr hx_yN μ μ'
  | 0, k, μ, hk, hE, hs => by
    rw [hq_M_starve_24, if_pos (show (999 : Int32) < nI k from nI_lt (a := 999) (by omega) (by omega))]
    exact ⟨μ, rfl, hx_rf _ _⟩
  | m + 1, k, μ, hk, hE, hs => by
    have h8 := hE.1.1
    obtain ⟨μ1, e1, f1, s1, g1⟩ := hx_stWith (d + 3) hs (p := p) (by omega) (-nI k)
    obtain ⟨μ2, e2, f2, s2, g2⟩ := hx_goBy d (hx_ERN f1 hE) (hx_nv0 h8) (hx_fdtw h8 ht hp (-nI k)) s1 g1 hn
    have f12 := hx_tr f1 f2
    have q := hx_qRY (hx_yNq f12)
    obtain ⟨μ3, e3, f3⟩ := hx_stR d ht hn h60 hp m (k + 1) μ2 (by omega) (hx_ERN f12 hE) (hx_SRq q hs)
    have cle := (hx_cnle E 255 (hx_fd t p (-nI k)) p 0 n).2
    rw [Nat.zero_add, show hx_cn E 255 (hx_fd t p (-nI k)) p 0 = 0 from rfl] at cle
    have ev : μ2.1 57 0 p = nI (hx_cn E 255 (hx_fd t p (-nI k)) p n) := by
      rw [g2 p (by omega), ← hx_ctot h8 255 (hx_fdtw h8 ht hp (-nI k)) (p := p) (by omega) n hn, hx_fdO _ _ (by omega)]
    rw [hq_M_starve_24, if_neg (show ¬ (999 : Int32) < nI k from nI_nlt (a := 999) (by omega) (by omega)), e1, hx_bV, e2, hx_bV, if_pos (hx_in (by omega) (by omega)), nI_clamp (by omega), ev, nI_1, hx_f1S]
    by_cases c : hx_cn E 255 (hx_fd t p (-nI k)) p n = 0
    · rw [if_pos (by rw [c]; rfl), if_pos (show hx_sok E t p n k = true from decide_eq_true c)]
      exact ⟨μ2, rfl, f12⟩
    · rw [if_neg (nI_ne0 (by omega) (by omega)), if_neg (show ¬ hx_sok E t p n k = true by unfold hx_sok; rw [decide_eq_false c]; decide), e3]
      exact ⟨μ3, rfl, hx_tr f12 f3⟩
theorem hx_starve (d : Nat) {n : Nat} (hn : n ≤ 512) {E : hx_Env} {t : hx_St} {μ : hs_M} (h : hx_I n E t μ) (x y : Int32) : hx_A n μ (hc_H_starve (d + 7) x y) (hc_M_starve (d + 7) x y) := by
  have h8 := h.1.1.1
  have h0 := hx_I0 (hx_Ia h)
  by_cases c : hx_isA (hx_P E) t x = true
  · by_cases c2 : hx_rg 0 60 y = true
    · obtain ⟨k, hk, ey⟩ := hx_rgN (n := 60) c2
      obtain ⟨p, hp, ex, al⟩ := hx_isAn h8 c
      obtain ⟨wt, hw1, hw9, ew⟩ := h.2.2.2.2.1.2.2.2 p hp
      obtain ⟨μ1, e1, f1⟩ := hx_stC (d + 1) h.2.2.2.2.1 (n := k) (by omega) hk hp hw9 ew wt 0 μ (by omega) h.1 h.2.2.1.1
      have same : hx_f1 (hx_sok E t p k) wt 0 = hx_f1 (hx_sok E t p k) 1000 0 := by
        have := hx_f1x (ok := hx_sok E t p k) wt 0 (1000 - wt) (by
          intro j h1 h2 h3
          refine ⟨wt - 1, by omega, by omega, ?_⟩
          unfold hx_sok at h3 ⊢
          have e : hx_fd t p (-nI (wt - 1)) = hx_fd t p (-nI j) := by
            unfold hx_fd
            rw [ew, hx_icn (a := wt - 1) (b := j) hw9 (by omega) (by omega) (by omega) (by omega)]
          rw [e]
          exact h3)
        rw [show wt + (1000 - wt) = 1000 by omega] at this
        exact this.symm
      have q1 := hx_xSq (j := 36) (by omega) f1
      have hI := hx_I0 (hx_Ir h (hx_qCX q1))
      obtain ⟨μ2, e2, f2⟩ := hx_stR d h.2.2.2.2.1 (n := k) (by omega) hk hp 1000 0 _ (by omega) hI.2.1 hI.2.2.2.1
      refine ⟨hx_ov (hx_f1 (hx_sok E t p k) 1000 0), μ1, μ2, ?_, ?_, E, t, hx_Iq0 h q1 (hx_tr (hx_wr (hx_rf _ _) _ (by unfold hx_qR; omega)) (hx_yNq f2))⟩
      · rw [hq_H_starve, hx_there _ h.1 h.2.2.1.1, hx_bI, hx_tn0, if_pos c, hq_H_starve_18, hx_i60, if_pos c2, ex, ey, hq_Trials_ouncesToMiss, show he_Trials_ouncesToMiss_2 (d + 5) (nI p) (nI k) 0 μ = he_Trials_ouncesToMiss_2 (d + 5) (nI p) (nI k) (nI 0) μ from rfl, e1, hx_bI, same]
      · rw [hq_M_starve, hx_isAM _ hI.2.1 hI.2.2.2.1, hx_bI, hx_tn0, if_pos c, hx_sixty, hx_bI, hx_tn0, if_pos c2, ex, ey]
        exact e2
    · apply hx_Anone h (v := -1)
      · rw [hq_H_starve, hx_there _ h.1 h.2.2.1.1, hx_bI, hx_tn0, if_pos c, hq_H_starve_18, hx_i60, if_neg c2]
      · rw [hq_M_starve, hx_isAM _ h0.2.1 h0.2.2.2.1, hx_bI, hx_tn0, if_pos c, hx_sixty, hx_bI, hx_tn0, if_neg c2, hq_M_starve_20]
  · apply hx_Anone h (v := -1)
    · rw [hq_H_starve, hx_there _ h.1 h.2.2.1.1, hx_bI, hx_tn0, if_neg c, hq_H_starve_18]
    · rw [hq_M_starve, hx_isAM _ h0.2.1 h0.2.2.2.1, hx_bI, hx_tn0, if_neg c, hq_M_starve_20]
