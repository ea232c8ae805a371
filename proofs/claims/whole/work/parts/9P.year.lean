/-! ===== E: year, how its text is read ===== -/
def hx_yl (r : Nat) (c : Int32) : Bool := hx_rg (97 + (r : Int)) 104 c
def hx_yn (c : Int32) : Nat := (c.toInt - 96).toNat
def hx_yx (r : Nat) : Int32 := if r = 0 then 0 else nI (96 + r)
theorem hx_ylc {r : Nat} {c : Int32} (h : hx_yl r c = true) : r < hx_yn c ∧ hx_yn c ≤ 8 ∧ c = nI (96 + hx_yn c) := by
  have h' := of_decide_eq_true h
  unfold hx_yn
  refine ⟨by omega, by omega, ?_⟩
  rw [hx_ei, nI_toInt (by omega)]
  omega
theorem hx_yl59 (r : Nat) : ¬ hx_yl r 59 = true := fun h => by
  have h' := of_decide_eq_true h
  have e : (59 : Int32).toInt = 59 := by decide
  omega
theorem hx_yllt {m : Nat} {T : Nat → Int32} (hk : hx_Tk m T) {k r : Nat} (h : hx_yl r (T k) = true) : k < m := by
  rcases Nat.lt_or_ge k m with z | z
  · exact z
  · rw [hk.2.2 k z] at h
    have h' := of_decide_eq_true h
    have e : (-1 : Int32).toInt = -1 := by decide
    omega
/-- where it ends, whether well -/
def hx_yf (T : Nat → Int32) : Nat → Nat → Nat → Nat × Bool
  | 0, k, _ => (k, true)
  | f + 1, k, r => if T k = 59 then hx_yf T f (k + 1) 0 else if hx_yl r (T k) = true then hx_yf T f (k + 1) (hx_yn (T k)) else (k, false)
theorem hx_yfS (T : Nat → Int32) (f k r : Nat) : hx_yf T (f + 1) k r = if T k = 59 then hx_yf T f (k + 1) 0 else if hx_yl r (T k) = true then hx_yf T f (k + 1) (hx_yn (T k)) else (k, false) := rfl
theorem hx_yfb {T : Nat → Int32} : ∀ (f k r : Nat), (hx_yf T f k r).1 ≤ k + f ∧ ((hx_yf T f k r).2 = true → (hx_yf T f k r).1 = k + f) ∧ (¬ (hx_yf T f k r).2 = true → (hx_yf T f k r).1 < k + f)
  | 0, k, r => ⟨Nat.le_refl k, fun _ => rfl, fun z => absurd rfl z⟩
  | f + 1, k, r => by
    rw [hx_yfS]
    by_cases c : T k = 59
    · rw [if_pos c]
      have := hx_yfb (T := T) f (k + 1) 0
      rw [show k + 1 + f = k + (f + 1) by omega] at this
      exact this
    · rw [if_neg c]
      by_cases c2 : hx_yl r (T k) = true
      · rw [if_pos c2]
        have := hx_yfb (T := T) f (k + 1) (hx_yn (T k))
        rw [show k + 1 + f = k + (f + 1) by omega] at this
        exact this
      · rw [if_neg c2]
        exact ⟨by show k ≤ k + (f + 1); omega, fun z => absurd (show false = true from z) (by decide), fun _ => by show k < k + (f + 1); omega⟩
theorem hx_yfC (d : Nat) {m l : Nat} {T : Nat → Int32} (hk : hx_Tk m T) (hml : m ≤ l) (hl : l ≤ 80) {μ : hs_M} (hT : hx_TC μ m T) (h1 : μ.1 7 0 1 = nI l) : ∀ (f k r : Nat), k + f = m → r ≤ 8 → he_H_yearFault_4 (d + 1) (hx_yx r) (nI k) μ = some (some (vI (if (hx_yf T f k r).2 = true ∧ (hx_yf T f k r).1 = l then -1 else nI (hx_yf T f k r).1)), μ)
  | 0, k, r, hkf, hr => by
    have e : k = m := hkf
    rw [hq_H_yearFault_4, hT.1, if_neg (nI_nlt (by omega) (by omega)), h1]
    show _ = some (some (vI (if true = true ∧ k = l then -1 else nI k)), μ)
    by_cases c : k = l
    · rw [if_neg (nI_nlt (by omega) (by omega)), if_pos ⟨rfl, c⟩]
    · rw [if_pos (nI_lt (by omega) (by omega)), if_neg (fun z => c z.2), e]
  | f + 1, k, r, hkf, hr => by
    have h80 := hk.1
    obtain ⟨c, hc, ec⟩ := hk.2.1 k (by omega)
    rw [hq_H_yearFault_4, hT.1, if_pos (nI_lt (by omega) (by omega)), hx_sAt d hk hT (by omega), hx_bI, hx_yfS]
    by_cases c1 : T k = 59
    · rw [if_pos c1, if_pos c1, hq_H_yearFault_59, nI_1]
      exact hx_yfC d hk hml hl hT h1 f (k + 1) 0 (by omega) (by omega)
    rw [if_neg c1, if_neg c1, hx_if2]
    show (if hx_rg 97 104 (T k) = true then _ else _) = _
    have fault : he_H_yearFault_57 (d + 1) (nI k) μ = some (some (vI (if (k, false).2 = true ∧ (k, false).1 = l then -1 else nI (k, false).1)), μ) := by
      rw [hq_H_yearFault_57, if_neg (fun z => absurd (show false = true from z.1) (by decide))]
    by_cases c2 : hx_yl r (T k) = true
    · obtain ⟨a1, a2, a3⟩ := hx_ylc c2
      have h' := of_decide_eq_true c2
      have c3 : hx_rg 97 104 (T k) = true := decide_eq_true (by omega)
      have c4 : hx_yx r < T k := by
        rw [a3]
        unfold hx_yx
        by_cases z : r = 0
        · rw [if_pos z]
          exact nI_lt (a := 0) (by omega) (by omega)
        · rw [if_neg z]
          exact nI_lt (by omega) (by omega)
      have e5 : T k = hx_yx (hx_yn (T k)) := by
        unfold hx_yx
        rw [if_neg (by omega)]
        exact a3
      rw [if_pos c3, if_pos c4, if_pos c2, hq_H_yearFault_59, nI_1]
      conv => lhs; rw [e5]
      exact hx_yfC d hk hml hl hT h1 f (k + 1) (hx_yn (T k)) (by omega) a2
    · rw [if_neg c2, fault]
      by_cases c3 : hx_rg 97 104 (T k) = true
      · have h' := of_decide_eq_true c3
        have n2 : ¬ (97 + (r : Int) ≤ (T k).toInt ∧ (T k).toInt ≤ 104) := fun z => c2 (decide_eq_true z)
        have c4 : ¬ hx_yx r < T k := by
          unfold hx_yx
          rw [hx_li]
          by_cases z : r = 0
          · omega
          · rw [if_neg z, nI_toInt (by omega)]
            omega
        rw [if_pos c3, if_neg c4]
      · rw [if_neg c3]
/-- who stands, week by week -/
def hx_ym (T : Nat → Int32) : Nat → Nat → Int32 → List Int32
  | 0, _, b => [b]
  | f + 1, k, b => if T k = 59 then b :: hx_ym T f (k + 1) 0 else hx_ym T f (k + 1) (b ||| ((1 : Int32) <<< ((T k - 97) &&& 31)))
theorem hx_ymS (T : Nat → Int32) (f k : Nat) (b : Int32) : hx_ym T (f + 1) k b = if T k = 59 then b :: hx_ym T f (k + 1) 0 else hx_ym T f (k + 1) (b ||| ((1 : Int32) <<< ((T k - 97) &&& 31))) := rfl
theorem hx_ymL {T : Nat → Int32} : ∀ (f k : Nat) (b : Int32), 1 ≤ (hx_ym T f k b).length ∧ (hx_ym T f k b).length ≤ f + 1
  | 0, k, b => ⟨Nat.le_refl 1, Nat.le_refl 1⟩
  | f + 1, k, b => by
    rw [hx_ymS]
    by_cases c : T k = 59
    · rw [if_pos c, List.length_cons]
      have := hx_ymL (T := T) f (k + 1) 0
      omega
    · rw [if_neg c]
      have := hx_ymL (T := T) f (k + 1) (b ||| ((1 : Int32) <<< ((T k - 97) &&& 31)))
      omega
def hx_yw (T : Nat → Int32) : Nat → Nat → Nat → Int32 → Int32 × Nat
  | 0, k, _, b => (b, k)
  | f + 1, k, r, b => if hx_yl r (T k) = true then hx_yw T f (k + 1) (hx_yn (T k)) (b ||| ((1 : Int32) <<< ((T k - 97) &&& 31))) else (b, k)
theorem hx_ywS (T : Nat → Int32) (f k r : Nat) (b : Int32) : hx_yw T (f + 1) k r b = if hx_yl r (T k) = true then hx_yw T f (k + 1) (hx_yn (T k)) (b ||| ((1 : Int32) <<< ((T k - 97) &&& 31))) else (b, k) := rfl
/-- a week's letters, then what stands behind them -/
theorem hx_ywf {T : Nat → Int32} : ∀ (f k r : Nat) (b : Int32), k ≤ (hx_yw T f k r b).2 ∧ (hx_yw T f k r b).2 ≤ k + f ∧ ((hx_yw T f k r b).2 = k + f → hx_yf T f k r = (k + f, true) ∧ hx_ym T f k b = [(hx_yw T f k r b).1]) ∧ ((hx_yw T f k r b).2 < k + f → T (hx_yw T f k r b).2 = 59 → hx_yf T f k r = hx_yf T (k + f - (hx_yw T f k r b).2 - 1) ((hx_yw T f k r b).2 + 1) 0 ∧ hx_ym T f k b = (hx_yw T f k r b).1 :: hx_ym T (k + f - (hx_yw T f k r b).2 - 1) ((hx_yw T f k r b).2 + 1) 0) ∧ ((hx_yw T f k r b).2 < k + f → ¬ T (hx_yw T f k r b).2 = 59 → hx_yf T f k r = ((hx_yw T f k r b).2, false))
  | 0, k, r, b => ⟨Nat.le_refl k, Nat.le_refl k, fun _ => ⟨rfl, rfl⟩, fun z => absurd z (Nat.lt_irrefl k), fun z => absurd z (Nat.lt_irrefl k)⟩
  | f + 1, k, r, b => by
    rw [hx_ywS, hx_yfS, hx_ymS]
    by_cases c : hx_yl r (T k) = true
    · have n59 : ¬ T k = 59 := fun z => hx_yl59 r (by rw [← z]; exact c)
      rw [if_pos c, if_neg n59, if_neg n59, if_pos c]
      obtain ⟨a1, a2, a3, a4, a5⟩ := hx_ywf (T := T) f (k + 1) (hx_yn (T k)) (b ||| ((1 : Int32) <<< ((T k - 97) &&& 31)))
      rw [show k + 1 + f = k + (f + 1) by omega] at a2 a3 a4 a5
      exact ⟨by omega, a2, a3, a4, a5⟩
    · rw [if_neg c, if_neg c]
      refine ⟨Nat.le_refl k, by show k ≤ k + (f + 1); omega, fun z => ?_, fun _ z => ?_, fun _ z => ?_⟩
      · have z' : k = k + (f + 1) := z
        omega
      · have z' : T k = 59 := z
        rw [if_pos z', if_pos z']
        show hx_yf T f (k + 1) 0 = hx_yf T (k + (f + 1) - k - 1) (k + 1) 0 ∧ b :: hx_ym T f (k + 1) 0 = b :: hx_ym T (k + (f + 1) - k - 1) (k + 1) 0
        rw [show k + (f + 1) - k - 1 = f by omega]
        exact ⟨rfl, rfl⟩
      · have z' : ¬ T k = 59 := z
        rw [if_neg z']
def hx_yY (κ b i : Nat) : Prop := b = 0 ∧ ((κ = 12 ∧ (i = 14 ∨ i = 31)) ∨ κ = 56)
theorem hx_ywR (d : Nat) {m : Nat} {T : Nat → Int32} (hk : hx_Tk m T) {j : Nat} (hj : j < 61) : ∀ (f k r : Nat) (b : Int32) (μ : hs_M), k + f = m → r ≤ 8 → hx_TR μ m T → μ.1 12 0 14 = nI k → μ.1 12 0 31 = nI j → ∃ μ', he_M_readsWeek_4 (d + 1) (nI r - 1) b μ = some (none, μ') ∧ hx_fr hx_yY μ μ' ∧ μ'.1 12 0 14 = nI (hx_yw T f k r b).2 ∧ μ'.1 12 0 31 = nI (j + 1) ∧ μ'.1 56 0 j = (hx_yw T f k r b).1 ∧ ∀ i, i < j → μ'.1 56 0 i = μ.1 56 0 i := by
  have stop : ∀ (k : Nat) (b : Int32) (μ : hs_M), μ.1 12 0 14 = nI k → μ.1 12 0 31 = nI j → ∃ μ', he_M_readsWeek_73 (d + 1) b μ = some (none, μ') ∧ hx_fr hx_yY μ μ' ∧ μ'.1 12 0 14 = nI k ∧ μ'.1 12 0 31 = nI (j + 1) ∧ μ'.1 56 0 j = b ∧ ∀ i, i < j → μ'.1 56 0 i = μ.1 56 0 i := fun k b μ hp h31 => by
    refine ⟨hs_wI (hs_wI μ 56 0 j b) 12 0 31 (nI (j + 1)), ?_, hx_wr (hx_wr (hx_rf _ _) _ (by unfold hx_yY; omega)) _ (by unfold hx_yY; omega), ?_, ?_, ?_, fun i hi => ?_⟩
    · rw [hq_M_readsWeek_73, h31, if_pos (hx_in (by omega) (by omega)), nI_clamp (by omega), nI_1]
    · rw [hx_rd, if_neg (by omega), hx_rd, if_neg (by omega), hp]
    · rw [hx_rd, if_pos ⟨rfl, rfl, rfl⟩]
    · rw [hx_rd, if_neg (by omega), hx_rd, if_pos ⟨rfl, rfl, rfl⟩]
    · rw [hx_rd, if_neg (by omega), hx_rd, if_neg (by omega)]
  intro f
  induction f with
  | zero =>
    intro k r b μ hkf hr hT hp h31
    have h80 := hk.1
    rw [hq_M_readsWeek_4, hp, hT.1, if_neg (nI_nlt (by omega) (by omega))]
    exact stop k b μ hp h31
  | succ f ih =>
    intro k r b μ hkf hr hT hp h31
    have h80 := hk.1
    obtain ⟨c, hc, ec⟩ := hk.2.1 k (by omega)
    have e97 : (T k - 97).toInt = (T k).toInt - 97 := by
      rw [ec, show (97 : Int32) = nI 97 from rfl, pk_sub_toInt (by omega) (by omega), nI_toInt (by omega)]
      rfl
    have er : hx_rg ((nI r - 1 + 1).toInt64).toInt (7 : Int64).toInt (T k - 97) = hx_yl r (T k) := by
      unfold hx_yl hx_rg
      rw [Int32.toInt_toInt64, Int32.sub_add_cancel, nI_toInt (by omega), e97, show (7 : Int64).toInt = 7 by decide]
      by_cases z : (97 + (r : Int) ≤ (T k).toInt ∧ (T k).toInt ≤ 104)
      · rw [decide_eq_true z, decide_eq_true (by omega)]
      · rw [decide_eq_false z, decide_eq_false (by omega)]
    rw [hq_M_readsWeek_4, hp, hT.1, if_pos (nI_lt (by omega) (by omega)), if_pos (hx_in (by omega) (by omega)), nI_clamp (by omega), hT.2 k (by omega), hx_inR, er, hx_bI, hx_tn0, hx_ywS]
    by_cases c2 : hx_yl r (T k) = true
    · obtain ⟨a1, a2, a3⟩ := hx_ylc c2
      have f1 : hx_fr hx_yY μ (hs_wI μ 12 0 14 (nI (k + 1))) := hx_wr (hx_rf _ _) _ (by unfold hx_yY; omega)
      have e1 : T k - 97 = nI (hx_yn (T k)) - 1 := by
        conv => lhs; rw [a3]
        rw [show (97 : Int32) = nI 97 from rfl, show hx_yn (T k) = (hx_yn (T k) - 1) + 1 by omega, nI_pred, pk_sub (by omega)]
        exact congrArg nI (by omega)
      rw [if_pos c2, if_pos c2, hp, if_pos (hx_in (by omega) (by omega)), nI_clamp (by omega), hT.2 k (by omega), nI_1]
      obtain ⟨μ', q1, q2, q3, q4, q5, q6⟩ := ih (k + 1) (hx_yn (T k)) (b ||| ((1 : Int32) <<< ((T k - 97) &&& 31))) (hs_wI μ 12 0 14 (nI (k + 1))) (by omega) a2 (hx_TRf f1 (fun i => by unfold hx_yY; omega) hT) (by rw [hx_rd, if_pos ⟨rfl, rfl, rfl⟩]) (by rw [hx_rd, if_neg (by omega), h31])
      refine ⟨μ', ?_, hx_tr f1 q2, q3, q4, q5, fun i hi => ?_⟩
      · rw [← q1, ← e1]
      · rw [q6 i hi, hx_rd, if_neg (by omega)]
    · rw [if_neg c2, if_neg c2]
      exact stop k b μ hp h31
theorem hx_yoR (d : Nat) {m l : Nat} {T : Nat → Int32} (hk : hx_Tk m T) (hm : m ≤ 60) : ∀ (g k j : Nat) (μ : hs_M), m - k ≤ g → k ≤ m → j ≤ k → hx_TR μ m T → μ.1 12 0 14 = nI k → μ.1 12 0 31 = nI j → ∃ μ', he_M_year_27 (d + 2) (nI l) 1 μ = he_M_year_27 (d + 2) (nI l) 0 μ' ∧ hx_fr hx_yY μ μ' ∧ μ'.1 12 0 14 = nI (hx_yf T (m - k) k 0).1 ∧ ((hx_yf T (m - k) k 0).2 = true → μ'.1 12 0 31 = nI (j + (hx_ym T (m - k) k 0).length) ∧ ∀ i v, (hx_ym T (m - k) k 0)[i]? = some v → μ'.1 56 0 (j + i) = v) ∧ ∀ i, i < j → μ'.1 56 0 i = μ.1 56 0 i := by
  intro g
  induction g with
  | zero =>
    intro k j μ hg hkm hjk hT hp h31
    have h80 := hk.1
    have e0 : k = m := by omega
    obtain ⟨μ1, a1, a2, a3, a4, a5, a6⟩ := hx_ywR d hk (j := j) (by omega) 0 k 0 0 μ (by omega) (by omega) hT hp h31
    have hT1 := hx_TRf a2 (fun i => by unfold hx_yY; omega) hT
    have a3 : μ1.1 12 0 14 = nI k := a3
    have a5 : μ1.1 56 0 j = 0 := a5
    have n59 : ¬ T k = 59 := fun z => absurd (hx_dlt hk (by decide) z) (by omega)
    rw [hq_M_year_27, if_neg (by decide), hq_M_readsWeek, show he_M_readsWeek_4 (d + 1) (-1) 0 μ = _ from a1, hx_bV, hx_takes d hk hT1 hkm a3 (by decide), hx_bI, decide_eq_false n59, if_neg n59, show m - k = 0 by omega]
    refine ⟨_, rfl, hx_wr a2 _ (by unfold hx_yY; omega), ?_, fun _ => ⟨?_, fun i v h => ?_⟩, fun i hi => ?_⟩
    · rw [hx_rd, if_pos ⟨rfl, rfl, rfl⟩]
      rfl
    · rw [hx_rd, if_neg (by omega), a4]
      rfl
    · rw [hx_rd, if_neg (by omega)]
      rcases i with _ | i
      · have h' : some (0 : Int32) = some v := h
        rw [← Option.some.inj h']
        exact a5
      · have h' : (none : Option Int32) = some v := h
        cases h'
    · rw [hx_rd, if_neg (by omega), a6 i hi]
  | succ g ih =>
    intro k j μ hg hkm hjk hT hp h31
    have h80 := hk.1
    obtain ⟨μ1, a1, a2, a3, a4, a5, a6⟩ := hx_ywR d hk (j := j) (by omega) (m - k) k 0 0 μ (by omega) (by omega) hT hp h31
    have hT1 := hx_TRf a2 (fun i => by unfold hx_yY; omega) hT
    obtain ⟨w1, w2, w3, w4, w5⟩ := hx_ywf (T := T) (m - k) k 0 0
    rw [show k + (m - k) = m by omega] at w2 w3 w4 w5
    rw [hq_M_year_27, if_neg (by decide), hq_M_readsWeek, show he_M_readsWeek_4 (d + 1) (-1) 0 μ = _ from a1, hx_bV, hx_takes d hk hT1 w2 a3 (by decide), hx_bI]
    revert a3 a5 w1 w2 w3 w4 w5
    generalize hx_yw T (m - k) k 0 0 = R
    obtain ⟨b, k'⟩ := R
    intro a3 a5 w1 w2 w3 w4 w5
    have a3 : μ1.1 12 0 14 = nI k' := a3
    have a5 : μ1.1 56 0 j = b := a5
    have w1 : k ≤ k' := w1
    have w2 : k' ≤ m := w2
    have w3 : k' = m → hx_yf T (m - k) k 0 = (m, true) ∧ hx_ym T (m - k) k 0 = [b] := w3
    have w4 : k' < m → T k' = 59 → hx_yf T (m - k) k 0 = hx_yf T (m - k' - 1) (k' + 1) 0 ∧ hx_ym T (m - k) k 0 = b :: hx_ym T (m - k' - 1) (k' + 1) 0 := w4
    have w5 : k' < m → ¬ T k' = 59 → hx_yf T (m - k) k 0 = (k', false) := w5
    show ∃ μ', he_M_year_27 (d + 2) (nI l) (hx_tn (decide (T k' = 59))) (hs_wI μ1 12 0 14 (nI (k' + if T k' = 59 then 1 else 0))) = _ ∧ _
    by_cases c : T k' = 59
    · have hlt := hx_dlt hk (by decide) c
      obtain ⟨x1, x2⟩ := w4 hlt c
      rw [decide_eq_true c, if_pos c, x1, x2]
      have fw : hx_fr hx_yY μ1 (hs_wI μ1 12 0 14 (nI (k' + 1))) := hx_wr (hx_rf _ _) _ (by unfold hx_yY; omega)
      obtain ⟨μ', q1, q2, q3, q4, q5⟩ := ih (k' + 1) (j + 1) (hs_wI μ1 12 0 14 (nI (k' + 1))) (by omega) (by omega) (by omega) (hx_TRf fw (fun i => by unfold hx_yY; omega) hT1) (by rw [hx_rd, if_pos ⟨rfl, rfl, rfl⟩]) (by rw [hx_rd, if_neg (by omega), a4])
      rw [show m - (k' + 1) = m - k' - 1 by omega] at q3 q4
      refine ⟨μ', q1, hx_tr a2 (hx_tr fw q2), q3, fun z => ⟨?_, fun i v h => ?_⟩, fun i hi => ?_⟩
      · rw [(q4 z).1, List.length_cons]
        exact congrArg nI (by omega)
      · rcases i with _ | i
        · have h' : some b = some v := h
          rw [← Option.some.inj h', Nat.add_zero, q5 j (by omega), hx_rd, if_neg (by omega), a5]
        · have h' : (hx_ym T (m - k' - 1) (k' + 1) 0)[i]? = some v := h
          have := (q4 z).2 i v h'
          rw [show j + 1 + i = j + (i + 1) by omega] at this
          exact this
      · rw [q5 i (by omega), hx_rd, if_neg (by omega), a6 i hi]
    · rw [decide_eq_false c, if_neg c]
      have p14 : (hs_wI μ1 12 0 14 (nI (k' + 0))).1 12 0 14 = nI k' := by
        rw [hx_rd, if_pos ⟨rfl, rfl, rfl⟩]
        rfl
      refine ⟨_, rfl, hx_wr a2 _ (by unfold hx_yY; omega), ?_, fun z => ?_, fun i hi => by rw [hx_rd, if_neg (by omega), a6 i hi]⟩
      · rw [p14]
        by_cases y : k' = m
        · rw [(w3 y).1, y]
        · rw [w5 (by omega) c]
      · by_cases y : k' = m
        · rw [(w3 y).2]
          refine ⟨?_, fun i v h => ?_⟩
          · rw [hx_rd, if_neg (by omega), a4]
            rfl
          · rcases i with _ | i
            · have h' : some b = some v := h
              rw [← Option.some.inj h', hx_rd, if_neg (by omega)]
              exact a5
            · have h' : (none : Option Int32) = some v := h
              cases h'
        · rw [w5 (by omega) c] at z
          exact absurd (show false = true from z) (by decide)
