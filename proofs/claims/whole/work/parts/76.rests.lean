/-! ===== E: rests ===== -/
def hx_pl (μ : hs_M) (κ : Nat) (pl : Nat → Int32) : Prop := ∀ i, i < 8 → μ.1 κ 0 i = pl i
def hx_plx (μ : hs_M) (κ p : Nat) (pl : Nat → Int32) : Prop := ∀ i, i < 8 → i ≠ p → μ.1 κ 0 i = pl i
def hx_up (pl : Nat → Int32) (p : Nat) (v : Int32) : Nat → Int32 := fun i => if i = p then v else pl i
def hx_th (E : hx_Env) (pl : Nat → Int32) (k : Nat) : Int32 := hx_bits (fun p => bt (pl p) k) (hx_P E)
noncomputable def hx_pt (E : hx_Env) (t : hx_St) (pl : Nat → Int32) : Nat → hx_St
  | 0 => t
  | k + 1 => hx_stp E (hx_pt E t pl k) (bt (hx_th E pl k))
theorem hx_ptS (E : hx_Env) (t : hx_St) (pl : Nat → Int32) (k : Nat) : hx_pt E t pl (k + 1) = hx_stp E (hx_pt E t pl k) (bt (hx_th E pl k)) := rfl
noncomputable def hx_pc (E : hx_Env) (t : hx_St) (pl : Nat → Int32) (p : Nat) : Nat → Nat
  | 0 => 0
  | k + 1 => hx_pc E t pl p k + (if hx_pt E t pl (k + 1) 17 = nI p then 1 else 0)
theorem hx_pcS (E : hx_Env) (t : hx_St) (pl : Nat → Int32) (p k : Nat) : hx_pc E t pl p (k + 1) = hx_pc E t pl p k + (if hx_pt E t pl (k + 1) 17 = nI p then 1 else 0) := rfl
theorem hx_pcle (E : hx_Env) (t : hx_St) (pl : Nat → Int32) (p : Nat) : ∀ k, hx_pc E t pl p k ≤ k
  | 0 => Nat.le_refl 0
  | k + 1 => by
    have := hx_pcle E t pl p k
    rw [hx_pcS]
    split <;> omega
theorem hx_pttw {E : hx_Env} (h8 : hx_P E ≤ 8) (pl : Nat → Int32) {t : hx_St} {W : Nat} (ht : hx_tw (hx_P E) W t) : ∀ n, W + n < 2 ^ 30 → hx_tw (hx_P E) (W + n) (hx_pt E t pl n)
  | 0, _ => ht
  | n + 1, h => hx_stw h8 (by omega) (hx_pttw h8 pl ht n (by omega)) _
theorem hx_ptot {E : hx_Env} (h8 : hx_P E ≤ 8) {p : Nat} (hp : p < 8) (pl : Nat → Int32) {t : hx_St} {W : Nat} (ht : hx_tw (hx_P E) W t) : ∀ n, W + n < 2 ^ 30 → hx_pt E t pl n (8 + p) - t (8 + p) = nI (hx_pc E t pl p n)
  | 0, _ => Int32.sub_self _
  | n + 1, h => by
    have ih := hx_ptot h8 hp pl ht n (by omega)
    have e := hx_s8 h8 (hx_pttw h8 pl ht n (by omega)) (bt (hx_th E pl n)) hp
    rw [← hx_ptS] at e
    rw [e, hx_pcS]
    split
    · rw [Int32.sub_eq_add_neg, Int32.add_assoc, Int32.add_comm 1, ← Int32.add_assoc, ← Int32.sub_eq_add_neg, ih, nI_1]
    · rw [ih, Nat.add_zero]
theorem hx_0sh {p : Nat} (hp : p < 32) : (0 : Int32) <<< (nI p &&& 31) = 0 := by
  apply b_ext
  intro i hi
  rw [b_shl p hp _ hi, b_0, b_0, Bool.and_false]
theorem hx_thC' (d : Nat) {μ : hs_M} {E : hx_Env} (hE : hx_EC μ E) {pl : Nat → Int32} (hpl : hx_pl μ 36 pl) (x1 x2 : Int32) {k : Nat} (hk : k < 32) : ∀ (m j : Nat), j + m = hx_P E → he_Future_weeksByPlans_24 d x1 x2 (nI k) (hx_bits (fun p => bt (pl p) k) j) (nI j) μ = he_Future_weeksByPlans_24 d x1 x2 (nI k) (hx_th E pl k) (nI (hx_P E)) μ
  | 0, j, hj => by
    rw [show j = hx_P E from hj]
    rfl
  | m + 1, j, hj => by
    have h8 := hE.1.1
    have ih := hx_thC' d hE hpl x1 x2 hk m (j + 1) (by omega)
    rw [← ih, hx_bitsS]
    conv => lhs; rw [hq_Future_weeksByPlans_24]
    rw [hx_eP hE, if_pos (nI_lt (by omega) (by omega)), if_pos (hx_in (by omega) (by omega)), nI_clamp (by omega), hpl j (by omega), hx_bit _ hk, nI_1]
    by_cases c : bt (pl j) k = true
    · rw [if_pos c, if_pos c]
    · rw [if_neg c, if_neg c, hx_0sh (by omega), Int32.or_zero]
theorem hx_sat {E : hx_Env} (s : hx_St) (a : Int32) : hx_stp E s (hx_sa E s a 0) = hx_stp E s (bt a) := by
  apply hx_stc
  intro p _ _
  unfold hx_sa
  rw [b_0, Bool.false_and, Bool.or_false]
theorem hx_wbpL (d : Nat) {E : hx_Env} {W : Nat} {t : hx_St} (ht : hx_tw (hx_P E) W t) {n : Nat} (hn : W + n < 2 ^ 30) (h4 : n ≤ 4) {pl : Nat → Int32} {p : Nat} (hp : p < 8) : ∀ (m k : Nat) (μ : hs_M), k + m = n → hx_EC μ E → hx_SC μ 0 t → hx_SC μ 35 (hx_pt E t pl k) → hx_pl μ 36 pl → ∃ μ', he_Future_weeksByPlans_13 (d + 3) (nI p) (nI n) (nI k) μ = some (some (vI (nI (hx_pc E t pl p n))), μ') ∧ hx_fr (hx_xS 35) μ μ'
  | 0, k, μ, hk, hE, h0, hs, hpl => by
    have e : k = n := hk
    subst e
    rw [hq_Future_weeksByPlans_13, if_neg (nI_nlt (by omega) (by omega)), hx_gain _ hs h0 hp, hx_bI, hx_ptot hE.1.1 hp pl ht k hn]
    exact ⟨μ, rfl, hx_rf _ _⟩
  | m + 1, k, μ, hk, hE, h0, hs, hpl => by
    have h8 := hE.1.1
    have tw := hx_pttw h8 pl ht k (by omega)
    obtain ⟨μ1, e1, f1⟩ := hx_winner d hE tw hs (hx_th E pl k) 0
    have hw := (hx_winw rfl tw (hx_sa E (hx_pt E t pl k) (hx_th E pl k) 0)).1
    obtain ⟨μ2, e2, f2, s2, _⟩ := hx_finish d (hx_ECW f1 hE) (by omega) tw (hx_SCW f1 hs) hw
    have s2' : hx_SC μ2 35 (hx_pt E t pl (k + 1)) := by
      rw [hx_ptS, ← hx_sat]
      exact s2
    have f12 := hx_tr (hx_xWS 35 f1) f2
    have q := hx_qCX (hx_xSq (j := 35) (by omega) f12)
    obtain ⟨μ3, e3, f3⟩ := hx_wbpL d ht hn h4 hp m (k + 1) μ2 (by omega) (hx_ECS f12 hE) (hx_SCq q (by omega) h0) s2' (fun i hi => by rw [f12.1 36 0 i (by unfold hx_xS; omega)]; exact hpl i hi)
    refine ⟨μ3, ?_, hx_tr f12 f3⟩
    rw [hq_Future_weeksByPlans_13, if_pos (nI_lt (by omega) (by omega)), show he_Future_weeksByPlans_24 (d + 3) (nI p) (nI n) (nI k) 0 0 μ = he_Future_weeksByPlans_24 (d + 3) (nI p) (nI n) (nI k) (hx_bits (fun p => bt (pl p) k) 0) (nI 0) μ from rfl, hx_thC' _ hE hpl _ _ (by omega) (hx_P E) 0 (by omega), hq_Future_weeksByPlans_24, hx_eP hE, if_neg (nI_nlt (by omega) (by omega)), e1, hx_bI, e2, hx_bV, nI_1, e3]
theorem hx_wbp (d : Nat) {μ : hs_M} {E : hx_Env} (hE : hx_EC μ E) {W : Nat} {t : hx_St} (ht : hx_tw (hx_P E) W t) (h0 : hx_SC μ 0 t) {n : Nat} (hn : W + n < 2 ^ 30) (h4 : n ≤ 4) {pl : Nat → Int32} (hpl : hx_pl μ 36 pl) {p : Nat} (hp : p < 8) : ∃ μ', hc_Future_weeksByPlans (d + 4) (nI p) (nI n) μ = some (some (vI (nI (hx_pc E t pl p n))), μ') ∧ hx_fr (hx_xS 35) μ μ' := by
  obtain ⟨μ1, e1, f1, s1⟩ := hx_follow (d + 2) (j := 35) h0 (by omega)
  have f1' : hx_fr (hx_xS 35) μ μ1 := hx_mo (fun κ b i x => by unfold hx_xS; omega) f1
  obtain ⟨μ2, e2, f2⟩ := hx_wbpL d ht hn h4 (pl := pl) hp n 0 μ1 (by omega) (hx_ECS f1' hE) (hx_SCq (hx_qCX (hx_xSq (by omega) f1')) (by omega) h0) s1 (fun i hi => by rw [f1.1 36 0 i (by omega)]; exact hpl i hi)
  rw [hq_Future_weeksByPlans, e1, hx_bV, show (0 : Int32) = nI 0 from rfl, e2]
  exact ⟨μ2, rfl, hx_tr f1' f2⟩
theorem hx_thR' (d : Nat) {μ : hs_M} {E : hx_Env} (hE : hx_ER μ E) {pl : Nat → Int32} (hpl : hx_pl μ 58 pl) (x1 x2 : Int32) {k : Nat} (hk : k < 32) : ∀ (m j : Nat), j + m = hx_P E → he_M_byPlans_17 (d + 1) x1 x2 (nI k) (hx_bits (fun p => bt (pl p) k) j) (nI j) μ = he_M_byPlans_17 (d + 1) x1 x2 (nI k) (hx_th E pl k) (nI (hx_P E)) μ
  | 0, j, hj => by
    rw [show j = hx_P E from hj]
    rfl
  | m + 1, j, hj => by
    have h8 := hE.1.1
    have ih := hx_thR' d hE hpl x1 x2 hk m (j + 1) (by omega)
    rw [← ih, hx_bitsS]
    conv => lhs; rw [hq_M_byPlans_17]
    rw [hx_rP hE, if_pos (nI_lt (by omega) (by omega)), if_pos (hx_in (by omega) (by omega)), nI_clamp (by omega), hpl j (by omega), hx_has _ _ hk, hx_bI, hx_tn0, nI_1, Int32.or_zero]
    by_cases c : bt (pl j) k = true
    · rw [if_pos c, if_pos c]
    · rw [if_neg c, if_neg c]
theorem hx_bpL (d : Nat) {E : hx_Env} {W : Nat} {t : hx_St} (ht : hx_tw (hx_P E) W t) {n : Nat} (hn : W + n < 2 ^ 30) (h4 : n ≤ 4) {pl : Nat → Int32} {p : Nat} (hp : p < 8) : ∀ (m k : Nat) (μ : hs_M), k + m = n → hx_ER μ E → hx_SR μ 46 0 (hx_pt E t pl k) → hx_sf μ t (hx_pt E t pl k) → hx_pl μ 58 pl → ∃ μ', he_M_byPlans_6 (d + 4) (nI p) (nI n) (nI k) μ = some (some (vI (nI (hx_pc E t pl p n))), μ') ∧ hx_fr hx_yN μ μ'
  | 0, k, μ, hk, hE, hs, h0, hpl => by
    have e : k = n := hk
    subst e
    rw [hq_M_byPlans_6, if_neg (nI_nlt (by omega) (by omega)), if_pos (hx_in (by omega) (by omega)), nI_clamp (by omega), h0 p hp, hx_ptot hE.1.1 hp pl ht k hn]
    exact ⟨μ, rfl, hx_rf _ _⟩
  | m + 1, k, μ, hk, hE, hs, h0, hpl => by
    have h8 := hE.1.1
    have tw := hx_pttw h8 pl ht k (by omega)
    obtain ⟨μ1, e1, f1, s1, g1⟩ := hx_goNext d hE (by omega) tw hs h0 (hx_th E pl k)
    rw [← hx_ptS] at s1 g1
    obtain ⟨μ3, e3, f3⟩ := hx_bpL d ht hn h4 hp m (k + 1) μ1 (by omega) (hx_ERN f1 hE) s1 g1 (fun i hi => by rw [f1.1 58 0 i (by unfold hx_yN; omega)]; exact hpl i hi)
    refine ⟨μ3, ?_, hx_tr f1 f3⟩
    rw [hq_M_byPlans_6, if_pos (nI_lt (by omega) (by omega)), show he_M_byPlans_17 (d + 4) (nI p) (nI n) (nI k) 0 0 μ = he_M_byPlans_17 (d + 4) (nI p) (nI n) (nI k) (hx_bits (fun p => bt (pl p) k) 0) (nI 0) μ from rfl, hx_thR' _ hE hpl _ _ (by omega) (hx_P E) 0 (by omega), hq_M_byPlans_17, hx_rP hE, if_neg (nI_nlt (by omega) (by omega)), e1, hx_bV, nI_1, e3]
theorem hx_bp (d : Nat) {μ : hs_M} {E : hx_Env} (hE : hx_ER μ E) {W : Nat} {t : hx_St} (ht : hx_tw (hx_P E) W t) (hs : hx_SR μ 45 0 t) {n : Nat} (hn : W + n < 2 ^ 30) (h4 : n ≤ 4) {pl : Nat → Int32} (hpl : hx_pl μ 58 pl) {p : Nat} (hp : p < 8) : ∃ μ', hc_M_byPlans (d + 5) (nI p) (nI n) μ = some (some (vI (nI (hx_pc E t pl p n))), μ') ∧ hx_fr hx_yN μ μ' := by
  obtain ⟨μ1, e1, f1, s1, g1⟩ := hx_starts (d + 2) hs
  obtain ⟨μ2, e2, f2⟩ := hx_bpL d ht hn h4 (pl := pl) hp n 0 μ1 (by omega) (hx_ERN f1 hE) s1 (fun i hi => by rw [g1 i hi]; exact (Int32.sub_self _).symm) (fun i hi => by rw [f1.1 58 0 i (by unfold hx_yN; omega)]; exact hpl i hi)
  rw [hq_M_byPlans, e1, hx_bV, show (0 : Int32) = nI 0 from rfl, e2]
  exact ⟨μ2, rfl, hx_tr f1 f2⟩
/-! the best reply -/
noncomputable def hx_vv (E : hx_Env) (t : hx_St) (pl : Nat → Int32) (n p k : Nat) : Nat := hx_pc E t (hx_up pl p (nI k)) p n
noncomputable def hx_bm (E : hx_Env) (t : hx_St) (pl : Nat → Int32) (n p : Nat) : Nat → Nat
  | 0 => hx_pc E t pl p n
  | k + 1 => if hx_bm E t pl n p k < hx_vv E t pl n p k then hx_vv E t pl n p k else hx_bm E t pl n p k
noncomputable def hx_bb (E : hx_Env) (t : hx_St) (pl : Nat → Int32) (n p : Nat) : Nat → Int32
  | 0 => pl p
  | k + 1 => if hx_bm E t pl n p k < hx_vv E t pl n p k then nI k else hx_bb E t pl n p k
theorem hx_bmS (E : hx_Env) (t : hx_St) (pl : Nat → Int32) (n p k : Nat) : hx_bm E t pl n p (k + 1) = if hx_bm E t pl n p k < hx_vv E t pl n p k then hx_vv E t pl n p k else hx_bm E t pl n p k := rfl
theorem hx_bbS (E : hx_Env) (t : hx_St) (pl : Nat → Int32) (n p k : Nat) : hx_bb E t pl n p (k + 1) = if hx_bm E t pl n p k < hx_vv E t pl n p k then nI k else hx_bb E t pl n p k := rfl
theorem hx_vvle (E : hx_Env) (t : hx_St) (pl : Nat → Int32) (n p k : Nat) : hx_vv E t pl n p k ≤ n := hx_pcle _ _ _ _ _
theorem hx_bmle (E : hx_Env) (t : hx_St) (pl : Nat → Int32) (n p : Nat) : ∀ k, hx_bm E t pl n p k ≤ n
  | 0 => hx_pcle _ _ _ _ _
  | k + 1 => by
    have := hx_bmle E t pl n p k
    have := hx_vvle E t pl n p k
    rw [hx_bmS]
    split <;> omega
theorem hx_bbn (E : hx_Env) (t : hx_St) (pl : Nat → Int32) (n p k : Nat) (h : ¬ hx_bm E t pl n p k < n) : ∀ j, hx_bb E t pl n p (k + j) = hx_bb E t pl n p k ∧ hx_bm E t pl n p (k + j) = hx_bm E t pl n p k
  | 0 => ⟨rfl, rfl⟩
  | j + 1 => by
    obtain ⟨a, b⟩ := hx_bbn E t pl n p k h j
    have := hx_vvle E t pl n p (k + j)
    rw [show k + (j + 1) = k + j + 1 from rfl, hx_bbS, hx_bmS, if_neg (by omega), if_neg (by omega)]
    exact ⟨a, b⟩
def hx_xP (κ b _i : Nat) : Prop := κ = 23 ∨ κ = 36 ∨ (b = 35 ∧ (κ = 6 ∨ (24 ≤ κ ∧ κ ≤ 29)))
def hx_yP (κ b i : Nat) : Prop := hx_yN κ b i ∨ κ = 58
theorem hx_xPq {μ μ' : hs_M} (f : hx_fr hx_xP μ μ') : hx_fr hx_qC μ μ' := hx_mo (fun κ b i x => by unfold hx_xP at x; unfold hx_qC; omega) f
theorem hx_yPq {μ μ' : hs_M} (f : hx_fr hx_yP μ μ') : hx_fr hx_qR μ μ' := hx_mo (fun κ b i x => by unfold hx_yP hx_yN at x; unfold hx_qR; omega) f
theorem hx_upl {μ : hs_M} {κ p : Nat} {pl : Nat → Int32} (h : hx_plx μ κ p pl) (v : Int32) : hx_pl (hs_wI μ κ 0 p v) κ (hx_up pl p v) := by
  intro i hi
  rw [hx_rd]
  unfold hx_up
  by_cases c : i = p
  · rw [if_pos ⟨rfl, c, rfl⟩, if_pos c]
  · rw [if_neg (by omega), if_neg c, h i hi c]
theorem hx_brC (d : Nat) {E : hx_Env} {W : Nat} {t : hx_St} (ht : hx_tw (hx_P E) W t) {n : Nat} (hn : W + n < 2 ^ 30) (h4 : n ≤ 4) {pl : Nat → Int32} {p : Nat} (hp : p < 8) : ∀ (m k : Nat) (μ : hs_M), k + m = 2 ^ n → hx_EC μ E → hx_SC μ 0 t → hx_plx μ 36 p pl → ∃ μ', he_Future_bestReply_18 (d + 4) (nI p) (nI n) (hx_bb E t pl n p k) (nI (hx_bm E t pl n p k)) (nI k) μ = some (some (vI (hx_bb E t pl n p (2 ^ n))), μ') ∧ hx_fr hx_xP μ μ' ∧ hx_plx μ' 36 p pl
  | 0, k, μ, hk, hE, h0, hx => by
    have h1024 := hx_p10 (n := n) (by omega)
    have e : k = 2 ^ n := hk
    rw [hq_Future_bestReply_18, hx_p2 n (by omega), if_neg (nI_nlt (by omega) (by omega)), hq_Future_bestReply_68, e]
    exact ⟨μ, rfl, hx_rf _ _, hx⟩
  | m + 1, k, μ, hk, hE, h0, hx => by
    have h1024 := hx_p10 (n := n) (by omega)
    have bl := hx_bmle E t pl n p k
    have vl := hx_vvle E t pl n p k
    rw [hq_Future_bestReply_18, hx_p2 n (by omega), if_pos (nI_lt (by omega) (by omega))]
    by_cases c : hx_bm E t pl n p k < n
    · have f0 : hx_fr hx_xP μ (hs_wI μ 36 0 p (nI k)) := hx_wr (hx_rf _ _) _ (Or.inr (Or.inl rfl))
      have q0 := hx_qCX (hx_xPq f0)
      obtain ⟨μ1, e1, f1⟩ := hx_wbp d (hx_ECq q0 hE) ht (hx_SCq q0 (by omega) h0) hn h4 (hx_upl hx (nI k)) hp
      have f1' : hx_fr hx_xP _ μ1 := hx_mo (fun κ b i x => by unfold hx_xS at x; unfold hx_xP; omega) f1
      have f01 := hx_tr f0 f1'
      have q1 := hx_qCX (hx_xPq f01)
      obtain ⟨μ2, e2, f2, x2⟩ := hx_brC d ht hn h4 (pl := pl) hp m (k + 1) μ1 (by omega) (hx_ECq q1 hE) (hx_SCq q1 (by omega) h0) (fun i hi z => by rw [f1.1 36 0 i (by unfold hx_xS; omega), hx_rd, if_neg (by omega)]; exact hx i hi z)
      refine ⟨μ2, ?_, hx_tr f01 f2, x2⟩
      rw [if_pos (nI_lt c (by omega)), if_pos (hx_in (by omega) (by omega)), nI_clamp (by omega), e1, hx_bI, hq_Future_bestReply_62, hq_Future_bestReply_62, nI_1, ← e2, hx_bbS, hx_bmS]
      show (if nI (hx_bm E t pl n p k) < nI (hx_vv E t pl n p k) then he_Future_bestReply_18 (d + 4) (nI p) (nI n) (nI k) (nI (hx_vv E t pl n p k)) (nI (k + 1)) μ1 else _) = _
      by_cases c2 : hx_bm E t pl n p k < hx_vv E t pl n p k
      · rw [if_pos (nI_lt c2 (by omega)), if_pos c2, if_pos c2]
      · rw [if_neg (nI_nlt (by omega) (by omega)), if_neg c2, if_neg c2]
    · rw [if_neg (nI_nlt (by omega) (by omega)), hq_Future_bestReply_68]
      have := (hx_bbn E t pl n p k c (m + 1)).1
      rw [hk] at this
      rw [this]
      exact ⟨μ, rfl, hx_rf _ _, hx⟩
theorem hx_brply (d : Nat) {μ : hs_M} {E : hx_Env} (hE : hx_EC μ E) {W : Nat} {t : hx_St} (ht : hx_tw (hx_P E) W t) (h0 : hx_SC μ 0 t) {n : Nat} (hn : W + n < 2 ^ 30) (h4 : n ≤ 4) {pl : Nat → Int32} (hpl : hx_pl μ 36 pl) {p : Nat} (hp : p < 8) : ∃ μ', hc_Future_bestReply (d + 5) (nI p) (nI n) μ = some (some (vI (hx_bb E t pl n p (2 ^ n))), μ') ∧ hx_fr hx_xP μ μ' ∧ hx_plx μ' 36 p pl := by
  obtain ⟨μ1, e1, f1⟩ := hx_wbp d hE ht h0 hn h4 hpl hp
  have f1' : hx_fr hx_xP μ μ1 := hx_mo (fun κ b i x => by unfold hx_xS at x; unfold hx_xP; omega) f1
  have q1 := hx_qCX (hx_xPq f1')
  obtain ⟨μ2, e2, f2, x2⟩ := hx_brC d ht hn h4 (pl := pl) hp (2 ^ n) 0 μ1 (by omega) (hx_ECq q1 hE) (hx_SCq q1 (by omega) h0) (fun i hi z => by rw [f1.1 36 0 i (by unfold hx_xS; omega)]; exact hpl i hi)
  rw [hq_Future_bestReply, if_pos (hx_in hp (by omega)), e1, hx_bI, nI_clamp (by omega), hpl p hp]
  exact ⟨μ2, e2, hx_tr f1' f2, x2⟩
theorem hx_plR (d : Nat) {E : hx_Env} {W : Nat} {t : hx_St} (ht : hx_tw (hx_P E) W t) {n : Nat} (hn : W + n < 2 ^ 30) (h4 : n ≤ 4) {pl : Nat → Int32} {p : Nat} (hp : p < 8) : ∀ (m k : Nat) (μ : hs_M), k + m = 2 ^ n → hx_ER μ E → hx_SR μ 45 0 t → hx_plx μ 58 p pl → ∃ μ', he_M_plans_21 (d + 5) (nI p) (nI n) (pl p) (hx_bb E t pl n p k) (nI (hx_bm E t pl n p k)) (nI k) μ = some (some (vI (hx_tn (decide (hx_bb E t pl n p (2 ^ n) ≠ pl p)))), μ') ∧ hx_fr hx_yP μ μ' ∧ hx_pl μ' 58 (hx_up pl p (hx_bb E t pl n p (2 ^ n)))
  | 0, k, μ, hk, hE, hs, hx => by
    have h1024 := hx_p10 (n := n) (by omega)
    have e : k = 2 ^ n := hk
    rw [hq_M_plans_21, hx_p2 n (by omega), if_neg (nI_nlt (by omega) (by omega)), if_pos (hx_in (by omega) (by omega)), nI_clamp (by omega), e]
    refine ⟨hs_wI μ 58 0 p (hx_bb E t pl n p (2 ^ n)), ?_, hx_wr (hx_rf _ _) _ (Or.inr rfl), hx_upl hx _⟩
    by_cases c : hx_bb E t pl n p (2 ^ n) = pl p
    · rw [if_pos c, decide_eq_false (fun x => x c)]
      rfl
    · rw [if_neg c, decide_eq_true c]
      rfl
  | m + 1, k, μ, hk, hE, hs, hx => by
    have h1024 := hx_p10 (n := n) (by omega)
    have bl := hx_bmle E t pl n p k
    have vl := hx_vvle E t pl n p k
    have f0 : hx_fr hx_yP μ (hs_wI μ 58 0 p (nI k)) := hx_wr (hx_rf _ _) _ (Or.inr rfl)
    have q0 := hx_qRY (hx_yPq f0)
    obtain ⟨μ1, e1, f1⟩ := hx_bp d (hx_ERq q0 hE) ht (hx_SRq q0 hs) hn h4 (hx_upl hx (nI k)) hp
    have f1' : hx_fr hx_yP _ μ1 := hx_mo (fun κ b i x => Or.inl x) f1
    have f01 := hx_tr f0 f1'
    have q1 := hx_qRY (hx_yPq f01)
    obtain ⟨μ2, e2, f2, x2⟩ := hx_plR d ht hn h4 (pl := pl) hp m (k + 1) μ1 (by omega) (hx_ERq q1 hE) (hx_SRq q1 hs) (fun i hi z => by rw [f1.1 58 0 i (by unfold hx_yN; omega), hx_rd, if_neg (by omega)]; exact hx i hi z)
    refine ⟨μ2, ?_, hx_tr f01 f2, x2⟩
    rw [hq_M_plans_21, hx_p2 n (by omega), if_pos (nI_lt (by omega) (by omega)), if_pos (hx_in (by omega) (by omega)), nI_clamp (by omega), e1, hx_bI, hx_max, hx_bI, hx_bI, nI_1, ← e2, hx_bbS, hx_bmS]
    show (if nI (hx_bm E t pl n p k) < nI (hx_vv E t pl n p k) then he_M_plans_21 (d + 5) (nI p) (nI n) (pl p) (nI k) (hx_mx (nI (hx_bm E t pl n p k)) (nI (hx_vv E t pl n p k))) (nI (k + 1)) μ1 else he_M_plans_21 (d + 5) (nI p) (nI n) (pl p) (hx_bb E t pl n p k) (hx_mx (nI (hx_bm E t pl n p k)) (nI (hx_vv E t pl n p k))) (nI (k + 1)) μ1) = _
    unfold hx_mx
    by_cases c2 : hx_bm E t pl n p k < hx_vv E t pl n p k
    · rw [if_pos (nI_lt c2 (by omega)), if_pos (nI_lt c2 (by omega)), if_pos c2, if_pos c2]
    · rw [if_neg (nI_nlt (by omega) (by omega)), if_neg (nI_nlt (by omega) (by omega)), if_neg c2, if_neg c2]
theorem hx_plans (d : Nat) {μ : hs_M} {E : hx_Env} (hE : hx_ER μ E) {W : Nat} {t : hx_St} (ht : hx_tw (hx_P E) W t) (hs : hx_SR μ 45 0 t) {n : Nat} (hn : W + n < 2 ^ 30) (h4 : n ≤ 4) {pl : Nat → Int32} (hpl : hx_pl μ 58 pl) {p : Nat} (hp : p < 8) : ∃ μ', hc_M_plans (d + 6) (nI p) (nI n) μ = some (some (vI (hx_tn (decide (hx_bb E t pl n p (2 ^ n) ≠ pl p)))), μ') ∧ hx_fr hx_yP μ μ' ∧ hx_pl μ' 58 (hx_up pl p (hx_bb E t pl n p (2 ^ n))) := by
  obtain ⟨μ1, e1, f1⟩ := hx_bp d hE ht hs hn h4 hpl hp
  have f1' : hx_fr hx_yP μ μ1 := hx_mo (fun κ b i x => Or.inl x) f1
  have q1 := hx_qRY (hx_yPq f1')
  obtain ⟨μ2, e2, f2, x2⟩ := hx_plR d ht hn h4 (pl := pl) hp (2 ^ n) 0 μ1 (by omega) (hx_ERq q1 hE) (hx_SRq q1 hs) (fun i hi z => by rw [f1.1 58 0 i (by unfold hx_yN; omega)]; exact hpl i hi)
  rw [hq_M_plans, if_pos (hx_in hp (by omega)), e1, hx_bI, nI_clamp (by omega), hpl p hp]
  exact ⟨μ2, e2, hx_tr f1' f2, x2⟩
