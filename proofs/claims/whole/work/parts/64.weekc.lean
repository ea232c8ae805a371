/-! ===== E: a week in the class ===== -/
/-- cells of a state of the class, and the will's stack -/
def hx_xS (j κ b _i : Nat) : Prop := κ = 23 ∨ (b = j ∧ (κ = 6 ∨ (24 ≤ κ ∧ κ ≤ 29)))
theorem hx_xWS (j : Nat) {μ μ' : hs_M} (h : hx_fr hx_xW μ μ') : hx_fr (hx_xS j) μ μ' := hx_mo (fun _ _ _ x => Or.inl x) h
theorem hx_ECW {μ μ' : hs_M} (f : hx_fr hx_xW μ μ') {E : hx_Env} (h : hx_EC μ E) : hx_EC μ' E := hx_ECf f (by intro κ i h x; unfold hx_cF at h; unfold hx_xW at x; omega) h
theorem hx_ECS {j : Nat} {μ μ' : hs_M} (f : hx_fr (hx_xS j) μ μ') {E : hx_Env} (h : hx_EC μ E) : hx_EC μ' E := hx_ECf f (by intro κ i h x; unfold hx_cF at h; unfold hx_xS at x; omega) h
theorem hx_SCW {μ μ' : hs_M} (f : hx_fr hx_xW μ μ') {j : Nat} {t : hx_St} (h : hx_SC μ j t) : hx_SC μ' j t := hx_SCf f (by intro κ i h x; unfold hx_xW at x; omega) h
theorem hx_SFW {μ μ' : hs_M} (f : hx_fr hx_xW μ μ') {j : Nat} {t : hx_St} (h : hx_SF μ j t) : hx_SF μ' j t := hx_SFf f (by intro κ i h x; unfold hx_xW at x; omega) h
theorem hx_bars (d : Nat) {μ : hs_M} {E : hx_Env} (hE : hx_EC μ E) {W : Nat} {t : hx_St} (ht : hx_tw (hx_P E) W t) {j : Nat} (hs : hx_SC μ j t) : hc_Office_shownOfServer (d + 2) j μ = some (some (vI (hx_bar E t)), μ) := by
  have h8 := hE.1.1
  rw [hq_Office_shownOfServer, hs.2.2.2.1]
  unfold hx_bar
  rcases hx_who ht h8 with ⟨w, _⟩ | ⟨w, q, hq, e⟩
  · rw [if_pos w, if_pos w]
  · rw [if_neg w, if_neg w, e, if_pos (hx_in (by omega) (by omega)), nI_clamp (by omega), hs.1 q (by omega), hx_eS hE, hx_bI]
/-- who stands: the sure, and those asked who will -/
def hx_sa (E : hx_Env) (t : hx_St) (a b : Int32) (p : Nat) : Bool := bt a p || (bt b p && decide (hx_ww E t p ≠ 0))
theorem hx_winL (d : Nat) {E : hx_Env} {W : Nat} {t : hx_St} (ht : hx_tw (hx_P E) W t) {j : Nat} (a b : Int32) : ∀ (m k : Nat) (μ : hs_M), k + m = hx_P E → hx_EC μ E → hx_SC μ j t → ∃ μ', he_Office_winner_13 (d + 2) j a b (hx_win E t (hx_sa E t a b) k) (hx_hv E t (hx_sa E t a b) k) (nI k) μ = some (some (vI (hx_win E t (hx_sa E t a b) (hx_P E))), μ') ∧ hx_fr hx_xW μ μ'
  | 0, k, μ, hk, hE, hs => by
    have h8 := hE.1.1
    rw [hq_Office_winner_13, hx_eP hE, if_neg (nI_nlt (by omega) (by omega)), show k = hx_P E from hk]
    exact ⟨μ, rfl, hx_rf _ _⟩
  | m + 1, k, μ, hk, hE, hs => by
    have h8 := hE.1.1
    have ih := hx_winL d ht (j := j) a b m (k + 1)
    have skip : ∀ μ1, hx_fr hx_xW μ μ1 → hx_win E t (hx_sa E t a b) (k + 1) = hx_win E t (hx_sa E t a b) k ∧ hx_hv E t (hx_sa E t a b) (k + 1) = hx_hv E t (hx_sa E t a b) k → ∃ μ', he_Office_winner_115 (d + 2) j a b (hx_win E t (hx_sa E t a b) k) (hx_hv E t (hx_sa E t a b) k) (nI k) μ1 = some (some (vI (hx_win E t (hx_sa E t a b) (hx_P E))), μ') ∧ hx_fr hx_xW μ μ' := by
      intro μ1 f1 e
      rw [hq_Office_winner_115, nI_1, ← e.1, ← e.2]
      obtain ⟨μ2, e2, f2⟩ := ih μ1 (by omega) (hx_ECW f1 hE) (hx_SCW f1 hs)
      exact ⟨μ2, e2, hx_tr f1 f2⟩
    have take : ∀ μ1, hx_fr hx_xW μ μ1 → hx_win E t (hx_sa E t a b) (k + 1) = nI k ∧ hx_hv E t (hx_sa E t a b) (k + 1) = hx_sw E (t k) → ∃ μ', he_Office_winner_107 (d + 2) j a b (nI k) (hx_sw E (t k)) μ1 = some (some (vI (hx_win E t (hx_sa E t a b) (hx_P E))), μ') ∧ hx_fr hx_xW μ μ' := by
      intro μ1 f1 e
      rw [hq_Office_winner_107, hq_Office_winner_115, nI_1]
      obtain ⟨μ2, e2, f2⟩ := ih μ1 (by omega) (hx_ECW f1 hE) (hx_SCW f1 hs)
      rw [e.1, e.2] at e2
      exact ⟨μ2, e2, hx_tr f1 f2⟩
    rw [hq_Office_winner_13, hx_eP hE, if_pos (nI_lt (by omega) (by omega)), hs.2.2.2.1]
    by_cases c1 : nI k = t 17
    · rw [if_pos c1]
      apply skip μ (hx_rf _ _)
      apply hx_wsA
      unfold hx_stn
      rw [decide_eq_true c1, Bool.not_true, Bool.and_false, Bool.and_false]
    rw [if_neg c1, hx_lives _ _ (by omega), hx_bI, hx_tn0, hs.2.2.1]
    by_cases c2 : bt (t 16) k = true
    rotate_left
    · rw [if_neg c2]
      apply skip μ (hx_rf _ _)
      apply hx_wsA
      rw [Bool.not_eq_true] at c2
      unfold hx_stn
      rw [c2, Bool.false_and, Bool.and_false]
    rw [if_pos c2, if_pos (hx_in (by omega) (by omega)), nI_clamp (by omega), hs.1 k (by omega), hx_eS hE, hx_bI]
    by_cases c3 : hx_hv E t (hx_sa E t a b) k < hx_sw E (t k)
    rotate_left
    · rw [if_neg c3]
      exact skip μ (hx_rf _ _) (hx_wsB (by omega) c3)
    rw [if_pos c3, hx_bt0 _ (by omega)]
    by_cases c4 : bt a k = true
    · rw [if_pos c4]
      apply take μ (hx_rf _ _)
      apply hx_wsC (by omega) _ c3
      unfold hx_stn hx_sa
      rw [c4, c2, decide_eq_false c1]
      rfl
    rw [if_neg c4, hx_bt0 _ (by omega)]
    rw [Bool.not_eq_true] at c4
    by_cases c5 : bt b k = true
    rotate_left
    · rw [if_neg c5]
      apply skip μ (hx_rf _ _)
      apply hx_wsA
      rw [Bool.not_eq_true] at c5
      unfold hx_stn hx_sa
      rw [c4, c5]
      rfl
    rw [if_pos c5]
    obtain ⟨μ1, e1, f1⟩ := hx_value d hE ht hs (p := k) (by omega)
    rw [e1, hx_bI]
    by_cases c6 : hx_ww E t k = 0
    · rw [if_pos c6]
      apply skip μ1 f1
      apply hx_wsA
      unfold hx_stn hx_sa
      rw [c4, c5, decide_eq_false (fun x => x c6)]
      rfl
    · rw [if_neg c6]
      apply take μ1 f1
      apply hx_wsC (by omega) _ c3
      unfold hx_stn hx_sa
      rw [c4, c5, c2, decide_eq_true c6, decide_eq_false c1]
      rfl
theorem hx_winner (d : Nat) {μ : hs_M} {E : hx_Env} (hE : hx_EC μ E) {W : Nat} {t : hx_St} (ht : hx_tw (hx_P E) W t) {j : Nat} (hs : hx_SC μ j t) (a b : Int32) : ∃ μ', hc_Office_winner (d + 3) j a b μ = some (some (vI (hx_win E t (hx_sa E t a b) (hx_P E))), μ') ∧ hx_fr hx_xW μ μ' := by
  rw [hq_Office_winner, hx_bars d hE ht hs, hx_bI]
  have w0 : ¬ hx_wcn E t (hx_sa E t a b) 0 := fun x => x.1 (by show (-1 : Int32) < 0; decide)
  have := hx_winL d ht (j := j) a b (hx_P E) 0 μ (by omega) hE hs
  rw [hx_winF w0, hx_hvF w0] at this
  exact this
/-! laws fall -/
def hx_xD (j κ b i : Nat) : Prop := b = j ∧ ((κ = 6 ∧ (i = 4 ∨ i = 5)) ∨ κ = 28)
theorem hx_dropL (d : Nat) {j h : Nat} (hh : 0 < h) (h31 : h < 2 ^ 31) {B wk : Int32} : ∀ (m k : Nat) (μ : hs_M), k + m = 12 → μ.1 6 j 4 = B → μ.1 6 j 0 = wk → ∃ μ', he_State_dropLaws_7 d j (nI h) (nI k) μ = he_State_dropLaws_44 d j (nI h) μ' ∧ hx_fr (fun κ b i => b = j ∧ κ = 28 ∧ k ≤ i) μ μ' ∧ (∀ i, k ≤ i → i < 12 → μ'.1 28 j i = if bt B i = true then wk else μ.1 28 j i)
  | 0, k, μ, hk, h4, h0 => by
    rw [hq_State_dropLaws_7, if_neg (show ¬ nI k < (12 : Int32) from nI_nlt (b := 12) (by omega) (by omega))]
    exact ⟨μ, rfl, hx_rf _ _, fun i a b => absurd b (by omega)⟩
  | m + 1, k, μ, hk, h4, h0 => by
    rw [hq_State_dropLaws_7, if_pos (show nI k < (12 : Int32) from nI_lt (b := 12) (by omega) (by omega)), if_pos (show (0 : Int32) < nI h from nI_lt (a := 0) hh h31), h4, hx_bt0 _ (by omega), h0]
    by_cases c : bt B k = true
    · rw [if_pos c, if_pos (hx_in (by omega) (by omega)), nI_clamp (by omega), hq_State_dropLaws_38, nI_1]
      obtain ⟨μ', e, f, g⟩ := hx_dropL d hh h31 (B := B) (wk := wk) m (k + 1) (hs_wI μ 28 j k wk) (by omega) (by rw [hx_rd, if_neg (by omega), h4]) (by rw [hx_rd, if_neg (by omega), h0])
      refine ⟨μ', e, ?_, ?_⟩
      · exact hx_tr (hx_wr (hx_rf _ _) _ ⟨rfl, rfl, Nat.le_refl k⟩) (hx_mo (fun κ b i x => ⟨x.1, x.2.1, by omega⟩) f)
      · intro i hi hi2
        by_cases ei : i = k
        · subst ei
          rw [f.1 28 j i (by omega), hx_rd, if_pos ⟨rfl, rfl, rfl⟩, if_pos c]
        · rw [g i (by omega) hi2, hx_rd, if_neg (show ¬ (28 = 28 ∧ i = k ∧ j = j) by omega)]
    · rw [if_neg c, hq_State_dropLaws_38, nI_1]
      obtain ⟨μ', e, f, g⟩ := hx_dropL d hh h31 (B := B) (wk := wk) m (k + 1) μ (by omega) h4 h0
      refine ⟨μ', e, hx_mo (fun κ b i x => ⟨x.1, x.2.1, by omega⟩) f, ?_⟩
      intro i hi hi2
      by_cases ei : i = k
      · subst ei
        rw [f.1 28 j i (by omega), if_neg c]
      · exact g i (by omega) hi2
theorem hx_drop (d : Nat) {j h : Nat} (h31 : h < 2 ^ 31) {B : Int32} {μ : hs_M} (h4 : μ.1 6 j 4 = B) (h5 : μ.1 6 j 5 = nI h) (hB : h = 0 → ∀ i, i < 12 → bt B i = false) : ∃ μ', hc_State_dropLaws (d + 1) j μ = some (some (vI (nI h)), μ') ∧ hx_fr (hx_xD j) μ μ' ∧ μ'.1 6 j 4 = 0 ∧ μ'.1 6 j 5 = 0 ∧ (∀ i, i < 12 → μ'.1 28 j i = if bt B i = true then μ.1 6 j 0 else μ.1 28 j i) := by
  rw [hq_State_dropLaws, h5]
  have fin : ∀ μ1, hx_fr (hx_xD j) μ μ1 → (∀ i, i < 12 → μ1.1 28 j i = if bt B i = true then μ.1 6 j 0 else μ.1 28 j i) → ∃ μ', he_State_dropLaws_44 d j (nI h) μ1 = some (some (vI (nI h)), μ') ∧ hx_fr (hx_xD j) μ μ' ∧ μ'.1 6 j 4 = 0 ∧ μ'.1 6 j 5 = 0 ∧ (∀ i, i < 12 → μ'.1 28 j i = if bt B i = true then μ.1 6 j 0 else μ.1 28 j i) := by
    intro μ1 f g
    rw [hq_State_dropLaws_44]
    refine ⟨_, rfl, ?_, ?_, ?_, ?_⟩
    · exact hx_wr (hx_wr f _ ⟨rfl, Or.inl ⟨rfl, Or.inl rfl⟩⟩) _ ⟨rfl, Or.inl ⟨rfl, Or.inr rfl⟩⟩
    · rw [hx_rd, if_neg (by omega), hx_rd, if_pos ⟨rfl, rfl, rfl⟩]
    · rw [hx_rd, if_pos ⟨rfl, rfl, rfl⟩]
    · intro i hi
      rw [hx_rd, if_neg (by omega), hx_rd, if_neg (by omega), g i hi]
  by_cases z : h = 0
  · subst z
    rw [hq_State_dropLaws_7, if_pos (by decide), if_neg (by decide)]
    exact fin μ (hx_rf _ _) (fun i hi => by rw [hB rfl i hi]; rfl)
  · obtain ⟨μ1, e, f, g⟩ := hx_dropL d (by omega) h31 (B := B) (wk := μ.1 6 j 0) 12 0 μ (by omega) h4 rfl
    rw [show (0 : Int32) = nI 0 from rfl, e]
    exact fin μ1 (hx_mo (fun κ b i x => ⟨x.1, Or.inr x.2.1⟩) f) (fun i hi => g i (by omega) hi)
/-! who has the office serves; it is set down -/
theorem hx_hB0 {P W : Nat} {t : hx_St} (ht : hx_tw P W t) : hx_hold t = 0 → ∀ i, i < 12 → bt (hx_holds t) i = false := by
  intro h i hi
  have hL := hx_L ht
  unfold hx_holds
  rw [hx_hbt (by omega) _ (by omega), decide_eq_false]
  rintro ⟨a, b⟩
  exact hx_hcz _ h i a b
/-- the cells of the state behind the first half of a week -/
def hx_xT (j κ b i : Nat) : Prop := b = j ∧ ((κ = 6 ∧ (i = 1 ∨ i = 2 ∨ i = 4 ∨ i = 5)) ∨ κ = 25 ∨ κ = 28 ∨ κ = 29)
theorem hx_serve (d : Nat) {μ : hs_M} {P W : Nat} (hW : W < 2 ^ 30) (h8 : P ≤ 8) {t : hx_St} (ht : hx_tw P W t) {j : Nat} (hs : hx_SC μ j t) {w : Int32} (hw : hx_wr8 P w) : ∃ μ', hc_State_serveWeek (d + 2) j w μ = some (none, μ') ∧ hx_fr (hx_xT j) μ μ' ∧ μ'.1 6 j 1 = hx_wo t w ∧ μ'.1 6 j 2 = (if hx_wo t w < 0 then 0 else (if w = -1 then t 18 else 0) + 1) ∧ (∀ i, i < 8 → μ'.1 25 j i = if hx_wo t w = nI i then t (8 + i) + 1 else t (8 + i)) ∧ μ'.1 6 j 4 = (if w = -1 then hx_holds t else 0) ∧ μ'.1 6 j 5 = (if w = -1 then nI (hx_hold t) else 0) ∧ (∀ i, i < 12 → μ'.1 28 j i = if w ≠ -1 ∧ bt (hx_holds t) i = true then t 19 else μ.1 28 j i) ∧ (∀ i, i < 60 → μ'.1 29 j i = if i = (t 19).toNatClampNeg % 60 then hx_wo t w else μ.1 29 j i) := by
  have ho := hx_woR ht hw
  have hw' := hx_wrN h8 hw
  obtain ⟨n, hn, e19⟩ := ht.2.1
  have hL := hx_L ht
  have hcl := hx_hcle (t := t) (t 20).toNatClampNeg
  obtain ⟨s1, s2, s3, s4, s5, s6, s7, s8⟩ := hs
  -- behind the change
  have rest : ∀ μ1, hx_fr (hx_xT j) μ μ1 → μ1.1 6 j 1 = hx_wo t w → (∀ i, i < 8 → μ1.1 25 j i = t (8 + i)) → (¬ hx_wo t w < 0 → μ1.1 6 j 2 = (if w = -1 then t 18 else 0)) → (hx_wo t w < 0 → μ1.1 6 j 2 = 0) → μ1.1 6 j 4 = (if w = -1 then hx_holds t else 0) → μ1.1 6 j 5 = (if w = -1 then nI (hx_hold t) else 0) → (∀ i, i < 12 → μ1.1 28 j i = if w ≠ -1 ∧ bt (hx_holds t) i = true then t 19 else μ.1 28 j i) → (∀ i, μ1.1 29 j i = μ.1 29 j i) → ∃ μ', he_State_serveWeek_20 (d + 1) j μ1 = some (none, μ') ∧ hx_fr (hx_xT j) μ μ' ∧ μ'.1 6 j 1 = hx_wo t w ∧ μ'.1 6 j 2 = (if hx_wo t w < 0 then 0 else (if w = -1 then t 18 else 0) + 1) ∧ (∀ i, i < 8 → μ'.1 25 j i = if hx_wo t w = nI i then t (8 + i) + 1 else t (8 + i)) ∧ μ'.1 6 j 4 = (if w = -1 then hx_holds t else 0) ∧ μ'.1 6 j 5 = (if w = -1 then nI (hx_hold t) else 0) ∧ (∀ i, i < 12 → μ'.1 28 j i = if w ≠ -1 ∧ bt (hx_holds t) i = true then t 19 else μ.1 28 j i) ∧ (∀ i, i < 60 → μ'.1 29 j i = if i = (t 19).toNatClampNeg % 60 then hx_wo t w else μ.1 29 j i) := by
    intro μ1 f1 h1 h25 h2a h2b h4 h5 h28 h29
    have h0 : μ1.1 6 j 0 = t 19 := by
      rw [f1.1 6 j 0 (by unfold hx_xT; omega), s6]
    have last : ∀ μ2, hx_fr (hx_xT j) μ μ2 → μ2.1 6 j 0 = t 19 → μ2.1 6 j 1 = hx_wo t w → (∀ i, μ2.1 29 j i = μ.1 29 j i) → ∃ μ', he_State_serveWeek_59 (d + 1) j μ2 = some (none, μ') ∧ hx_fr (hx_xT j) μ μ' ∧ (∀ κ i, κ ≠ 29 → μ'.1 κ j i = μ2.1 κ j i) ∧ (∀ i, i < 60 → μ'.1 29 j i = if i = (t 19).toNatClampNeg % 60 then hx_wo t w else μ.1 29 j i) := by
      intro μ2 f2 a0 a1 a29
      rw [hq_State_serveWeek_59, a0, e19, show (60 : Int32) = nI 60 from rfl, hx_fm _ (by omega) (by omega) (by omega), hx_bI, if_pos (hx_in (Nat.mod_lt _ (by omega)) (by omega)), nI_clamp (by have := Nat.mod_lt n (show 60 > 0 by omega); omega), a1, nI_clamp (by omega)]
      refine ⟨_, rfl, hx_wr f2 _ ⟨rfl, by omega⟩, ?_, ?_⟩
      · intro κ i hκ
        rw [hx_rd, if_neg (by omega)]
      · intro i hi
        rw [hx_rd]
        by_cases c : i = n % 60
        · rw [if_pos ⟨rfl, c, rfl⟩, if_pos c]
        · rw [if_neg (by omega), if_neg c, a29]
    rw [hq_State_serveWeek_20, h1]
    rcases hx_wrN h8 ho with ⟨a, e⟩ | ⟨a, ne, p, hp, e⟩
    · rw [if_pos a]
      obtain ⟨μ', x1, x2, x3, x4⟩ := last μ1 f1 h0 h1 h29
      refine ⟨μ', x1, x2, ?_, ?_, ?_, ?_, ?_, ?_, x4⟩
      · rw [x3 6 1 (by omega), h1]
      · rw [x3 6 2 (by omega), if_pos a]
        exact h2b a
      · intro i hi
        rw [x3 25 i (by omega), h25 i hi, if_neg]
        intro z
        rw [z] at a
        exact nI_pos (by omega) a
      · rw [x3 6 4 (by omega), h4]
      · rw [x3 6 5 (by omega), h5]
      · intro i hi
        rw [x3 28 i (by omega), h28 i hi]
    · rw [if_neg a, e, if_pos (show nI p < (8 : Int32) from nI_lt (b := 8) (by omega) (by omega)), if_pos (hx_in (by omega) (by omega)), if_pos (hx_in (by omega) (by omega)), nI_clamp (by omega)]
      obtain ⟨μ', x1, x2, x3, x4⟩ := last (hs_wI (hs_wI μ1 6 j 2 (μ1.1 6 j 2 + 1)) 25 j p (μ1.1 25 j p + 1)) (hx_wr (hx_wr f1 _ ⟨rfl, by omega⟩) _ ⟨rfl, by omega⟩) (by rw [hx_rd, if_neg (by omega), hx_rd, if_neg (by omega), h0]) (by rw [hx_rd, if_neg (by omega), hx_rd, if_neg (by omega), h1]) (by intro i; rw [hx_rd, if_neg (by omega), hx_rd, if_neg (by omega), h29])
      rw [e] at x4 a
      refine ⟨μ', x1, x2, ?_, ?_, ?_, ?_, ?_, ?_, x4⟩
      · rw [x3 6 1 (by omega), hx_rd, if_neg (by omega), hx_rd, if_neg (by omega), h1, e]
      · rw [x3 6 2 (by omega), hx_rd, if_neg (by omega), hx_rd, if_pos ⟨rfl, rfl, rfl⟩, if_neg a, h2a (by rw [e]; exact a)]
      · intro i hi
        rw [x3 25 i (by omega), hx_rd]
        by_cases c : i = p
        · rw [if_pos ⟨rfl, c, rfl⟩, if_pos (by rw [c]), h25 p (by omega), c]
        · rw [if_neg (by omega), hx_rd, if_neg (by omega), h25 i hi, if_neg]
          rw [nI_eq (by omega) (by omega)]
          omega
      · rw [x3 6 4 (by omega), hx_rd, if_neg (by omega), hx_rd, if_neg (by omega), h4]
      · rw [x3 6 5 (by omega), hx_rd, if_neg (by omega), hx_rd, if_neg (by omega), h5]
      · intro i hi
        rw [x3 28 i (by omega), hx_rd, if_neg (by omega), hx_rd, if_neg (by omega), h28 i hi]
  rw [hq_State_serveWeek]
  by_cases c : w = -1
  · rw [if_pos c]
    have ewo : hx_wo t w = t 17 := if_pos c
    apply rest μ (hx_rf _ _)
    · rw [ewo, s4]
    · exact s2
    · intro z
      rw [ewo] at z
      rw [if_pos c, s5, if_neg z]
    · intro z
      rw [ewo] at z
      rw [s5, if_pos z]
    · rw [if_pos c, s7]
    · rw [if_pos c, s8]
    · intro i hi
      rw [if_neg (by rintro ⟨x, _⟩; exact x c)]
    · intro i
      rfl
  · rw [if_neg c]
    have ewo : hx_wo t w = w := if_neg c
    obtain ⟨μ1, e1, f1, g4, g5, g28⟩ := hx_drop d (h := hx_hold t) (by unfold hx_hold; omega) s7 s8 (hx_hB0 ht)
    rw [e1, hx_bI]
    have f1' : hx_fr (hx_xT j) μ μ1 := hx_mo (fun κ b i x => by unfold hx_xD at x; unfold hx_xT; omega) f1
    apply rest _ (hx_wr (hx_wr f1' _ ⟨rfl, by omega⟩) _ ⟨rfl, by omega⟩)
    · rw [hx_rd, if_neg (by omega), hx_rd, if_pos ⟨rfl, rfl, rfl⟩, ewo]
    · intro i hi
      rw [hx_rd, if_neg (by omega), hx_rd, if_neg (by omega), f1.1 25 j i (by unfold hx_xD; omega), s2 i hi]
    · intro _
      rw [hx_rd, if_pos ⟨rfl, rfl, rfl⟩, if_neg c]
    · intro _
      rw [hx_rd, if_pos ⟨rfl, rfl, rfl⟩]
    · rw [hx_rd, if_neg (by omega), hx_rd, if_neg (by omega), g4, if_neg c]
    · rw [hx_rd, if_neg (by omega), hx_rd, if_neg (by omega), g5, if_neg c]
    · intro i hi
      rw [hx_rd, if_neg (by omega), hx_rd, if_neg (by omega), g28 i hi, s6]
      by_cases z : bt (hx_holds t) i = true
      · rw [if_pos z, if_pos ⟨c, z⟩]
      · rw [if_neg z, if_neg (by rintro ⟨_, y⟩; exact z y)]
    · intro i
      rw [hx_rd, if_neg (by omega), hx_rd, if_neg (by omega), f1.1 29 j i (by unfold hx_xD; omega)]
/-! weights change -/
theorem hx_chgL (d : Nat) {E : hx_Env} {t : hx_St} {j n : Nat} (hn : n < 2 ^ 30) (e19 : t 19 = nI n) {μ0 : hs_M} (hE : hx_EC μ0 E) (h16 : μ0.1 6 j 3 = t 16) (h19 : μ0.1 6 j 0 = t 19) : ∀ (m k : Nat) (μ : hs_M), k + m = hx_P E → hx_fr (fun κ b _ => b = j ∧ κ = 24) μ0 μ → (∀ i, i < 8 → μ.1 24 j i = hx_chk E t k i) → ∃ μ', he_Town_changeWeights_2 (d + 1) j (nI k) μ = some (none, μ') ∧ hx_fr (fun κ b _ => b = j ∧ κ = 24) μ0 μ' ∧ (∀ i, i < 8 → μ'.1 24 j i = hx_chk E t (hx_P E) i)
  | 0, k, μ, hk, f, hw => by
    have h8 := hE.1.1
    rw [hq_Town_changeWeights_2, f.1 8 0 9 (by omega), hx_eP hE, if_neg (nI_nlt (by omega) (by omega))]
    rw [show k = hx_P E from hk] at hw
    exact ⟨μ, rfl, f, hw⟩
  | m + 1, k, μ, hk, f, hw => by
    have h8 := hE.1.1
    have h6 := hE.1.2.1 k (by omega)
    have ih := hx_chgL d hn e19 hE h16 h19 m (k + 1)
    have skip : ¬ (bt (t 16) k = true ∧ 0 < hx_Hl E k) → ∀ i, i < 8 → μ.1 24 j i = hx_chk E t (k + 1) i := by
      intro c i hi
      rw [hw i hi]
      unfold hx_chk
      by_cases e : i = k
      · subst e
        rw [if_neg (by omega), if_neg (by rintro ⟨_, y⟩; exact c y)]
      · by_cases z : i < k
        · by_cases y : bt (t 16) i = true ∧ 0 < hx_Hl E i
          · rw [if_pos ⟨z, y⟩, if_pos ⟨by omega, y⟩]
          · rw [if_neg (by rintro ⟨_, x⟩; exact y x), if_neg (by rintro ⟨_, x⟩; exact y x)]
        · rw [if_neg (by omega), if_neg (by omega)]
    rw [hq_Town_changeWeights_2, f.1 8 0 9 (by omega), hx_eP hE, if_pos (nI_lt (by omega) (by omega)), if_pos (hx_in (by omega) (by omega)), nI_clamp (by omega), f.1 17 0 k (by omega), hE.2.2.2.2.1 k (by omega)]
    by_cases c1 : 0 < hx_Hl E k
    rotate_left
    · rw [if_neg (show ¬ (0 : Int32) < nI (hx_Hl E k) from nI_nlt (b := hx_Hl E k) (a := 0) (by omega) (by omega)), hq_Town_changeWeights_67, nI_1]
      exact ih μ (by omega) f (skip (by rintro ⟨_, y⟩; exact c1 y))
    rw [if_pos (show (0 : Int32) < nI (hx_Hl E k) from nI_lt (a := 0) c1 (by omega)), hx_lives _ _ (by omega), hx_bI, hx_tn0, f.1 6 j 3 (by omega), h16]
    by_cases c2 : bt (t 16) k = true
    rotate_left
    · rw [if_neg c2, hq_Town_changeWeights_67, nI_1]
      exact ih μ (by omega) f (skip (by rintro ⟨y, _⟩; exact c2 y))
    have hm : n % hx_Hl E k < hx_Hl E k := Nat.mod_lt _ c1
    have ei : nI k * 6 + nI (n % hx_Hl E k) = nI (6 * k + n % hx_Hl E k) := by
      rw [show (6 : Int32) = nI 6 from rfl, pk_mul, nI_add, Nat.mul_comm]
    rw [if_pos c2, f.1 6 j 0 (by omega), h19, e19, hx_fm _ (by omega) c1 (by omega), hx_bI, ei, if_pos (hx_in (by omega) (by omega)), if_pos (hx_in (by omega) (by omega)), nI_clamp (by omega), f.1 18 0 _ (by omega), hE.2.2.2.2.2.1 k _ (by omega) hm, hw k (by omega), hx_inB, hx_bI, if_pos (hx_in (by omega) (by omega)), hq_Town_changeWeights_67, nI_1]
    apply ih _ (by omega) (hx_wr f _ ⟨rfl, rfl⟩)
    intro i hi
    rw [hx_rd]
    by_cases e : i = k
    · subst e
      rw [if_pos ⟨rfl, rfl, rfl⟩]
      unfold hx_chk
      rw [if_neg (by omega), if_pos ⟨by omega, c2, c1⟩, e19, nI_clamp (by omega)]
    · rw [if_neg (by omega), hw i hi]
      unfold hx_chk
      by_cases z : i < k
      · by_cases y : bt (t 16) i = true ∧ 0 < hx_Hl E i
        · rw [if_pos ⟨z, y⟩, if_pos ⟨by omega, y⟩]
        · rw [if_neg (by rintro ⟨_, x⟩; exact y x), if_neg (by rintro ⟨_, x⟩; exact y x)]
      · rw [if_neg (by omega), if_neg (by omega)]
theorem hx_finish (d : Nat) {μ : hs_M} {E : hx_Env} (hE : hx_EC μ E) {W : Nat} (hW : W < 2 ^ 30) {t : hx_St} (ht : hx_tw (hx_P E) W t) {j : Nat} (hs : hx_SC μ j t) {w : Int32} (hw : hx_wr8 (hx_P E) w) : ∃ μ', hc_Office_finish (d + 3) j w μ = some (none, μ') ∧ hx_fr (hx_xS j) μ μ' ∧ hx_SC μ' j (hx_fin E t w) ∧ (hx_SF μ j t → hx_SF μ' j (hx_fin E t w)) := by
  have h8 := hE.1.1
  have ho := hx_woR ht hw
  have hL := hx_L ht
  obtain ⟨n, hn, e19⟩ := ht.2.1
  obtain ⟨fh, fhs⟩ := hx_fhold h8 hW ht hw
  obtain ⟨μ1, e1, f1, g1, g2, g25, g4, g5, g28, g29⟩ := hx_serve (d) hW h8 ht hs hw
  have f1S : hx_fr (hx_xS j) μ μ1 := hx_mo (fun κ b i x => by unfold hx_xT at x; unfold hx_xS; omega) f1
  have hE1 := hx_ECS f1S hE
  have a16 : μ1.1 6 j 3 = t 16 := by
    rw [f1.1 6 j 3 (by unfold hx_xT; omega), hs.2.2.1]
  have a19 : μ1.1 6 j 0 = t 19 := by
    rw [f1.1 6 j 0 (by unfold hx_xT; omega), hs.2.2.2.2.2.1]
  obtain ⟨μ2, e2, f2, g24⟩ := hx_chgL d (t := t) (j := j) (by omega) e19 hE1 a16 a19 (hx_P E) 0 μ1 (by omega) (hx_rf _ _) (by
    intro i hi
    rw [f1.1 24 j i (by unfold hx_xT; omega), hs.1 i hi]
    unfold hx_chk
    rw [if_neg (by omega)])
  have f2S : hx_fr (hx_xS j) μ1 μ2 := hx_mo (fun κ b i x => by unfold hx_xS; omega) f2
  rw [hq_Office_finish, e1, hx_bV, hq_Town_changeWeights, show (0 : Int32) = nI 0 from rfl, e2, hx_bV]
  have r : ∀ κ i, κ ≠ 24 → (κ ≠ 6 ∨ i ≠ 0) → (hs_wI μ2 6 j 0 (μ2.1 6 j 0 + 1)).1 κ j i = μ1.1 κ j i := by
    intro κ i a b
    rw [hx_rd, if_neg (by omega), f2.1 κ j i (by omega)]
  have hSC : hx_SC (hs_wI μ2 6 j 0 (μ2.1 6 j 0 + 1)) j (hx_fin E t w) := by
    refine ⟨?_, ?_, ?_, ?_, ?_, ?_, ?_, ?_⟩
    · intro i hi
      rw [hx_rd, if_neg (by omega), g24 i hi, hx_flo h8 ho hi]
      rfl
    · intro i hi
      rw [r 25 i (by omega) (by omega), g25 i hi, hx_ftot h8 ho hi]
    · rw [r 6 3 (by omega) (by omega), a16, hx_f16 h8 ho]
    · rw [r 6 1 (by omega) (by omega), g1, hx_f17 h8 ho]
    · rw [r 6 2 (by omega) (by omega), g2, hx_f17 h8 ho, hx_f18 h8 ho]
      by_cases c : hx_wo t w < 0
      · rw [if_pos c, if_pos c]
      · rw [if_neg c, if_neg c, if_neg c]
    · rw [hx_rd, if_pos ⟨rfl, rfl, rfl⟩, f2.1 6 j 0 (by omega), a19, hx_f19 h8 ho]
    · rw [r 6 4 (by omega) (by omega), g4, fhs]
    · rw [r 6 5 (by omega) (by omega), g5, fh]
      split
      · rfl
      · rfl
  refine ⟨_, rfl, hx_wr (hx_tr f1S f2S) _ (by unfold hx_xS; omega), hSC, ?_⟩
  intro hF
  obtain ⟨_, k6, k26, k27, k28, k29⟩ := hF
  refine ⟨hSC, ?_, ?_, ?_, ?_, ?_⟩
  · rw [r 6 6 (by omega) (by omega), f1.1 6 j 6 (by unfold hx_xT; omega), k6, hx_f20 h8 ho]
  · intro k hk
    rw [r 26 k (by omega) (by omega), f1.1 26 j k (by unfold hx_xT; omega), k26 k hk, hx_f21 h8 ho (by omega)]
  · intro k hk
    rw [r 27 k (by omega) (by omega), f1.1 27 j k (by unfold hx_xT; omega), k27 k hk, hx_f21 h8 ho (by omega)]
  · intro k hk
    rw [r 28 k (by omega) (by omega), g28 k hk, hx_f45 h8 ho hk, k28 k hk]
    unfold hx_holds
    rw [hx_hbt (by omega) _ (by omega)]
    by_cases c : w ≠ -1 ∧ k < (t 20).toNatClampNeg ∧ t (45 + k) < 0
    · rw [if_pos c, if_pos ⟨c.1, decide_eq_true c.2⟩]
    · rw [if_neg c, if_neg]
      rintro ⟨a, b⟩
      exact c ⟨a, of_decide_eq_true b⟩
  · intro k hk
    rw [r 29 k (by omega) (by omega), g29 k hk, hx_fhi h8 ho hL hk, k29 k hk]
theorem hx_pass (d : Nat) {μ : hs_M} {E : hx_Env} (hE : hx_EC μ E) {W : Nat} (hW : W < 2 ^ 30) {t : hx_St} (ht : hx_tw (hx_P E) W t) {j : Nat} (hs : hx_SC μ j t) (a b : Int32) : ∃ μ', hc_Office_pass (d + 4) j a b μ = some (none, μ') ∧ hx_fr (hx_xS j) μ μ' ∧ hx_SC μ' j (hx_stp E t (hx_sa E t a b)) ∧ (hx_SF μ j t → hx_SF μ' j (hx_stp E t (hx_sa E t a b))) := by
  obtain ⟨μ1, e1, f1⟩ := hx_winner d hE ht hs a b
  have hw : hx_wr8 (hx_P E) (hx_win E t (hx_sa E t a b) (hx_P E)) := by
    rcases hx_winr E t (hx_sa E t a b) (hx_P E) with e | ⟨p, hp, e, _⟩
    · exact Or.inl e
    · exact Or.inr ⟨p, hp, e⟩
  obtain ⟨μ2, e2, f2, g2, g3⟩ := hx_finish d (hx_ECW f1 hE) hW ht (hx_SCW f1 hs) hw
  rw [hq_Office_pass, e1, hx_bI, e2, hx_bV]
  exact ⟨μ2, rfl, hx_tr (hx_xWS j f1) f2, g2, fun h => g3 (hx_SFW f1 h)⟩
