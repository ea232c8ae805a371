/-! ===== E: texts as they are read ===== -/
def hx_Tk (m : Nat) (T : Nat → Int32) : Prop := m ≤ 80 ∧ (∀ i, i < m → ∃ c, c < 256 ∧ T i = nI c) ∧ ∀ i, m ≤ i → T i = -1
def hx_TC (μ : hs_M) (m : Nat) (T : Nat → Int32) : Prop := μ.1 7 0 2 = nI m ∧ ∀ i, i < m → μ.1 13 0 i = T i
def hx_TR (μ : hs_M) (m : Nat) (T : Nat → Int32) : Prop := μ.1 12 0 15 = nI m ∧ ∀ i, i < m → μ.1 47 0 i = T i
theorem hx_nn1 {n : Nat} (h : n < 2 ^ 31) : ¬ nI n = -1 := fun y => absurd (show (-1 : Int32) < 0 by decide) (by rw [← y]; exact nI_pos h)
theorem hx_TCf {X : Nat → Nat → Nat → Prop} {μ μ' : hs_M} (f : hx_fr X μ μ') (hX : ∀ i, ¬ X 7 0 2 ∧ ¬ X 13 0 i) {m : Nat} {T : Nat → Int32} (h : hx_TC μ m T) : hx_TC μ' m T :=
  ⟨by rw [f.1 7 0 2 (hX 0).1, h.1], fun i hi => by rw [f.1 13 0 i (hX i).2, h.2 i hi]⟩
theorem hx_TRf {X : Nat → Nat → Nat → Prop} {μ μ' : hs_M} (f : hx_fr X μ μ') (hX : ∀ i, ¬ X 12 0 15 ∧ ¬ X 47 0 i) {m : Nat} {T : Nat → Int32} (h : hx_TR μ m T) : hx_TR μ' m T :=
  ⟨by rw [f.1 12 0 15 (hX 0).1, h.1], fun i hi => by rw [f.1 47 0 i (hX i).2, h.2 i hi]⟩
theorem hx_mnN {a b : Nat} (ha : a < 2 ^ 31) (hb : b < 2 ^ 31) : hx_mn (nI a) (nI b) = nI (min a b) := by
  unfold hx_mn
  by_cases c : b < a
  · rw [if_pos (nI_lt c ha), Nat.min_eq_right (by omega)]
  · rw [if_neg (nI_nlt (by omega) hb), Nat.min_eq_left (by omega)]
/-- both hold one text, open to its first x signs -/
theorem hx_open {μ : hs_M} (h : hx_iT μ) {x : Nat} (hx : x ≤ 80) : ∃ l, ∃ T : Nat → Int32, l ≤ 80 ∧ hx_Tk (min l x) T ∧ μ.1 7 0 1 = nI l ∧ μ.1 12 0 13 = nI l ∧ (∀ i, i < min l x → μ.1 13 0 i = T i) ∧ (∀ i, i < min l x → μ.1 47 0 i = T i) ∧ ∀ d, hc_Text_open (d + 2) (nI x) μ = some (none, hs_wI μ 7 0 2 (nI (min l x))) := by
  obtain ⟨l, hl, t1, t2, t3⟩ := h
  refine ⟨l, fun i => if i < min l x then μ.1 13 0 i else -1, hl, ⟨by omega, ?_, ?_⟩, t1, t2, ?_, ?_, ?_⟩
  · intro i hi
    obtain ⟨c, hc, e, _⟩ := t3 i (by omega)
    exact ⟨c, hc, by show (if i < min l x then μ.1 13 0 i else -1) = nI c; rw [if_pos hi, e]⟩
  · intro i hi
    exact if_neg (by omega)
  · intro i hi
    exact (if_pos hi).symm
  · intro i hi
    obtain ⟨c, hc, e, e2⟩ := t3 i (by omega)
    show μ.1 47 0 i = if i < min l x then μ.1 13 0 i else -1
    rw [if_pos hi, e, e2]
  · intro d
    rw [hq_Text_open, t1, hx_min, hx_bI, hx_mnN (by omega) (by omega)]
theorem hx_begR (d : Nat) {μ : hs_M} {l x : Nat} (hl : l ≤ 80) (hx : x ≤ 80) (h : μ.1 12 0 13 = nI l) : ∃ μ', hc_M_begins (d + 2) (nI x) μ = some (some (vI (nI l)), μ') ∧ hx_fr (fun κ _ i => κ = 12 ∧ (i = 13 ∨ i = 14 ∨ i = 15 ∨ i = 16)) μ μ' ∧ μ'.1 12 0 13 = 0 ∧ μ'.1 12 0 14 = nI 0 ∧ μ'.1 12 0 15 = nI (min l x) ∧ μ'.1 12 0 16 = nI 0 := by
  refine ⟨hs_wI (hs_wI (hs_wI (hs_wI μ 12 0 13 0) 12 0 14 0) 12 0 16 0) 12 0 15 (nI (min l x)), ?_, hx_wr (hx_wr (hx_wr (hx_wr (hx_rf _ _) _ (by omega)) _ (by omega)) _ (by omega)) _ (by omega), ?_, ?_, ?_, ?_⟩
  · rw [hq_M_begins, h, hx_min, hx_bI, hx_mnN (by omega) (by omega)]
  · rw [hx_rd, if_neg (by omega), hx_rd, if_neg (by omega), hx_rd, if_neg (by omega), hx_rd, if_pos ⟨rfl, rfl, rfl⟩]
  · rw [hx_rd, if_neg (by omega), hx_rd, if_neg (by omega), hx_rd, if_pos ⟨rfl, rfl, rfl⟩]
    rfl
  · rw [hx_rd, if_pos ⟨rfl, rfl, rfl⟩]
  · rw [hx_rd, if_neg (by omega), hx_rd, if_pos ⟨rfl, rfl, rfl⟩]
    rfl
theorem hx_sAt (d : Nat) {μ : hs_M} {m : Nat} {T : Nat → Int32} (hk : hx_Tk m T) (hT : hx_TC μ m T) {i : Nat} (hi : i < 2 ^ 31) : hc_Text_signAt (d + 1) (nI i) μ = some (some (vI (T i)), μ) := by
  have h80 := hk.1
  rw [hq_Text_signAt, if_neg (nI_pos hi), hT.1]
  by_cases c : i < m
  · rw [if_pos (nI_lt c (by omega)), if_pos (show nI i < (80 : Int32) from nI_lt (b := 80) (by omega) (by omega)), if_pos (hx_in (by omega) (by omega)), nI_clamp (by omega), hT.2 i c]
  · rw [if_neg (nI_nlt (by omega) hi), hq_Text_signAt_18, hk.2.2 i (by omega)]
def hx_dg (c : Int32) : Int32 := if hx_rg 48 57 c = true then c - 48 else -1
theorem hx_dgd {c : Int32} (h : hx_rg 48 57 c = true) : ∃ q, q ≤ 9 ∧ c = nI (48 + q) ∧ hx_dg c = nI q := by
  have h' := of_decide_eq_true h
  refine ⟨(c.toInt - 48).toNat, by omega, ?_, ?_⟩
  · rw [hx_ei, nI_toInt (by omega)]
    omega
  · unfold hx_dg
    rw [if_pos h]
    have e : c = nI (48 + (c.toInt - 48).toNat) := by
      rw [hx_ei, nI_toInt (by omega)]
      omega
    conv => lhs; rw [e]
    rw [show (48 : Int32) = nI 48 from rfl, pk_sub (by omega), Nat.add_sub_cancel_left]
theorem hx_dAt (d : Nat) {μ : hs_M} {m : Nat} {T : Nat → Int32} (hk : hx_Tk m T) (hT : hx_TC μ m T) {i : Nat} (hi : i < 2 ^ 31) : hc_Text_digitAt (d + 2) (nI i) μ = some (some (vI (hx_dg (T i))), μ) := by
  rw [hq_Text_digitAt, hx_sAt d hk hT hi, hx_bI, hx_if2, hq_Text_digitAt_25]
  show (if hx_rg 48 57 (T i) = true then _ else _) = _
  unfold hx_dg
  by_cases c : hx_rg 48 57 (T i) = true
  · rw [if_pos c, if_pos c]
  · rw [if_neg c, if_neg c]
theorem hx_dlt {m : Nat} {T : Nat → Int32} (hk : hx_Tk m T) {k : Nat} {c : Int32} (hc : c ≠ -1) (h : T k = c) : k < m := by
  rcases Nat.lt_or_ge k m with z | z
  · exact z
  · exact absurd ((hk.2.2 k z).symm.trans h).symm hc
theorem hx_dlt' {m : Nat} {T : Nat → Int32} (hk : hx_Tk m T) {k : Nat} (h : hx_rg 48 57 (T k) = true) : k < m := by
  rcases Nat.lt_or_ge k m with z | z
  · exact z
  · rw [hk.2.2 k z] at h
    exact absurd h (by decide)
theorem hx_isD (d : Nat) {μ : hs_M} {m : Nat} {T : Nat → Int32} (hk : hx_Tk m T) (hT : hx_TR μ m T) {k : Nat} (hkm : k ≤ m) (hp : μ.1 12 0 14 = nI k) : hc_M_isDigit (d + 2) μ = some (some (vI (hx_tn (hx_rg 48 57 (T k)))), μ) := by
  have h80 := hk.1
  rw [hq_M_isDigit, hp, hT.1]
  by_cases c : k < m
  · rw [if_pos (nI_lt c (by omega)), if_pos (hx_in (by omega) (by omega)), nI_clamp (by omega), hT.2 k c, hx_inR, hx_bI, hx_tn0]
    show (if hx_rg 48 57 (T k) = true then _ else _) = _
    by_cases z : hx_rg 48 57 (T k) = true
    · rw [if_pos z, hx_rz1, z]
      rfl
    · rw [if_neg z, hq_M_isDigit_37, hx_rz0, Bool.eq_false_iff.mpr z]
      rfl
  · rw [if_neg (nI_nlt (by omega) (by omega)), hq_M_isDigit_37, hx_rz0, hk.2.2 k (by omega), show hx_rg 48 57 (-1) = false by decide]
    rfl
theorem hx_takes (d : Nat) {μ : hs_M} {m : Nat} {T : Nat → Int32} (hk : hx_Tk m T) (hT : hx_TR μ m T) {k : Nat} (hkm : k ≤ m) (hp : μ.1 12 0 14 = nI k) {c : Int32} (hc : c ≠ -1) : hc_M_takes (d + 2) c μ = some (some (vI (hx_tn (decide (T k = c)))), hs_wI μ 12 0 14 (nI (k + if T k = c then 1 else 0))) := by
  have h80 := hk.1
  rw [hq_M_takes, hp, hT.1]
  by_cases z : T k = c
  · have c' := hx_dlt hk hc z
    rw [if_pos (nI_lt c' (by omega)), if_pos (hx_in (by omega) (by omega)), nI_clamp (by omega), hT.2 k c', if_pos z, hx_flag1, hx_bI, hx_rz1, nI_1, if_pos z, decide_eq_true z]
    rfl
  · have e : he_M_takes_28 (d + 1) μ = some (some (vI (hx_tn (decide (T k = c)))), hs_wI μ 12 0 14 (nI (k + if T k = c then 1 else 0))) := by
      rw [hq_M_takes_28, hx_flag0, hx_bI, hp, hx_rz0, Int32.add_zero, if_neg z, decide_eq_false z]
      rfl
    rw [e]
    by_cases c' : k < m
    · rw [if_pos (nI_lt c' (by omega)), if_pos (hx_in (by omega) (by omega)), nI_clamp (by omega), hT.2 k c', if_neg z]
    · rw [if_neg (nI_nlt (by omega) (by omega))]
theorem hx_ng1 : ∀ B, B ≤ 80 → (-1 : Int32) - nI B < 0 := by decide +kernel
theorem hx_flt (d : Nat) {μ : hs_M} {l x B : Nat} (hl : l ≤ 80) (hx : x ≤ 80) (hB : B ≤ min l x) (hp : μ.1 12 0 14 = nI B) (hm : μ.1 12 0 15 = nI (min l x)) (ok : Bool) : hc_M_faultOf (d + 1) (nI l) (nI x) (hx_tn ok) μ = some (some (vI (if ok = true ∧ B = l then 0 else -1 - nI B)), μ) := by
  have e19 : ¬ (ok = true ∧ B = l) → he_M_faultOf_19 d (nI l) (nI x) μ = some (some (vI (if ok = true ∧ B = l then 0 else -1 - nI B)), μ) := fun z => by
    rw [hq_M_faultOf_19, hp, if_neg z]
    by_cases c : x < l
    · rw [if_pos (nI_lt c (by omega))]
      by_cases c2 : B < x
      · rw [if_pos (nI_lt c2 (by omega)), hq_M_faultOf_44, if_pos rfl, hp]
      · rw [if_neg (nI_nlt (by omega) (by omega)), hq_M_faultOf_40, show x = B by omega]
    · rw [if_neg (nI_nlt (by omega) (by omega)), hq_M_faultOf_44, if_pos rfl, hp]
  rw [hq_M_faultOf, hx_tn0]
  by_cases o : ok = true
  · rw [if_pos o, hp, hm]
    by_cases c : B = min l x
    · rw [if_pos (by rw [c])]
      by_cases c2 : x < l
      · rw [if_pos (nI_lt c2 (by omega)), hq_M_faultOf_40, if_neg (by omega), show x = B by omega]
      · rw [if_neg (nI_nlt (by omega) (by omega)), hq_M_faultOf_44, if_neg (by decide), if_pos ⟨o, by omega⟩]
    · rw [if_neg (fun y => c ((nI_eq (by omega) (by omega)).mp y)), e19 (by omega)]
  · rw [if_neg o, e19 (fun z => o z.1)]
/-- a number of at most n digits -/
def hx_nm (T : Nat → Int32) : Nat → Nat → Nat → Nat × Nat
  | 0, k, v => (v, k)
  | n + 1, k, v => if hx_rg 48 57 (T k) = true then hx_nm T n (k + 1) (v * 10 + (hx_dg (T k)).toNatClampNeg) else (v, k)
theorem hx_nmS (T : Nat → Int32) (n k v : Nat) : hx_nm T (n + 1) k v = if hx_rg 48 57 (T k) = true then hx_nm T n (k + 1) (v * 10 + (hx_dg (T k)).toNatClampNeg) else (v, k) := rfl
theorem hx_nmb {T : Nat → Int32} : ∀ (n k v B : Nat), v < B → (hx_nm T n k v).1 < 10 ^ n * B
  | 0, k, v, B, h => by
    show v < _
    omega
  | n + 1, k, v, B, h => by
    rw [hx_nmS]
    have p : 0 < 10 ^ n := Nat.pow_pos (by omega)
    by_cases c : hx_rg 48 57 (T k) = true
    · rw [if_pos c]
      obtain ⟨q, hq, _, e⟩ := hx_dgd c
      rw [e, nI_clamp (by omega)]
      have := hx_nmb (T := T) n (k + 1) (v * 10 + q) (10 * B) (by omega)
      rw [Nat.pow_succ, Nat.mul_assoc]
      exact this
    · rw [if_neg c]
      show v < _
      have : B ≤ 10 ^ (n + 1) * B := Nat.le_mul_of_pos_left _ (Nat.pow_pos (by omega))
      omega
theorem hx_nmp {m : Nat} {T : Nat → Int32} (hk : hx_Tk m T) : ∀ (n k v : Nat), k ≤ m → k ≤ (hx_nm T n k v).2 ∧ (hx_nm T n k v).2 ≤ m
  | 0, k, v, h => ⟨Nat.le_refl k, h⟩
  | n + 1, k, v, h => by
    rw [hx_nmS]
    by_cases c : hx_rg 48 57 (T k) = true
    · rw [if_pos c]
      have := hx_nmp hk n (k + 1) (v * 10 + (hx_dg (T k)).toNatClampNeg) (hx_dlt' hk c)
      omega
    · rw [if_neg c]
      exact ⟨Nat.le_refl k, h⟩
theorem hx_nmR (d : Nat) {m : Nat} {T : Nat → Int32} (hk : hx_Tk m T) {n : Nat} (hn : n ≤ 3) : ∀ (f j k v : Nat) (μ : hs_M), j + f = n → hx_TR μ m T → k ≤ m → μ.1 12 0 14 = nI k → ∃ μ', he_M_number_4 (d + 2) (nI n) (nI v) (nI j) μ = some (some (vI (nI (hx_nm T f k v).1)), μ') ∧ hx_fr (fun κ b i => κ = 12 ∧ b = 0 ∧ i = 14) μ μ' ∧ μ'.1 12 0 14 = nI (hx_nm T f k v).2
  | 0, j, k, v, μ, hj, hT, hkm, hp => by
    rw [hq_M_number_4, if_neg (nI_nlt (by omega) (by omega)), hq_M_number_50]
    exact ⟨μ, rfl, hx_rf _ _, hp⟩
  | f + 1, j, k, v, μ, hj, hT, hkm, hp => by
    have h80 := hk.1
    rw [hq_M_number_4, if_pos (nI_lt (by omega) (by omega)), hx_isD d hk hT hkm hp, hx_bI, hx_tn0, hx_nmS]
    by_cases c : hx_rg 48 57 (T k) = true
    · obtain ⟨q, hq, e1, e2⟩ := hx_dgd c
      have c' := hx_dlt' hk c
      rw [if_pos c, if_pos c, hp, if_pos (hx_in (by omega) (by omega)), nI_clamp (by omega), hT.2 k c', e2, e1, nI_clamp (by omega), nI_1, nI_1, show (10 : Int32) * nI v = nI (10 * v) from pk_mul 10 v, nI_add, show (48 : Int32) = nI 48 from rfl, pk_sub (by omega), show 10 * v + (48 + q) - 48 = v * 10 + q by omega]
      have f1 : hx_fr (fun κ b i => κ = 12 ∧ b = 0 ∧ i = 14) μ (hs_wI μ 12 0 14 (nI (k + 1))) := hx_wr (hx_rf _ _) _ ⟨rfl, rfl, rfl⟩
      obtain ⟨μ', a1, a2, a3⟩ := hx_nmR d hk hn f (j + 1) (k + 1) (v * 10 + q) (hs_wI μ 12 0 14 (nI (k + 1))) (by omega) (hx_TRf f1 (fun i => by omega) hT) (by omega) (by rw [hx_rd, if_pos ⟨rfl, rfl, rfl⟩])
      exact ⟨μ', a1, hx_tr f1 a2, a3⟩
    · rw [if_neg c, if_neg c, hq_M_number_50]
      exact ⟨μ, rfl, hx_rf _ _, hp⟩
theorem hx_numR (d : Nat) {m : Nat} {T : Nat → Int32} (hk : hx_Tk m T) {n : Nat} (hn : n ≤ 3) {μ : hs_M} (hT : hx_TR μ m T) {k : Nat} (hkm : k ≤ m) (hp : μ.1 12 0 14 = nI k) : ∃ μ', hc_M_number (d + 3) (nI n) μ = some (some (vI (nI (hx_nm T n k 0).1)), μ') ∧ hx_fr (fun κ b i => κ = 12 ∧ b = 0 ∧ i = 14) μ μ' ∧ μ'.1 12 0 14 = nI (hx_nm T n k 0).2 := by
  rw [hq_M_number]
  exact hx_nmR d hk hn n 0 k 0 μ (by omega) hT hkm hp
theorem hx_nm1 {T : Nat → Int32} {k : Nat} (h : hx_rg 48 57 (T k) = true) : hx_nm T 1 k 0 = ((hx_dg (T k)).toNatClampNeg, k + 1) := by
  rw [hx_nmS, if_pos h]
  show (0 * 10 + _, _) = _
  rw [Nat.zero_mul, Nat.zero_add]
def hx_a0 (c : Int32) : Int32 := if (43 : Int32) = c then 0 else if (45 : Int32) = c then 1 else -1
theorem hx_am0 (d : Nat) {μ : hs_M} {m : Nat} {T : Nat → Int32} (hk : hx_Tk m T) (hT : hx_TR μ m T) {k : Nat} (hkm : k ≤ m) (hp : μ.1 12 0 14 = nI k) : hc_M_among (d + 1) 0 μ = some (some (vI (hx_a0 (T k))), μ) := by
  have h80 := hk.1
  rw [hq_M_among_0_0]
  by_cases c : k < m
  · unfold hx_a0
    rw [hq_M_among_2_0, if_pos (by decide), hp, hT.1, if_pos (nI_lt c (by omega)), if_pos (by decide), if_pos (hx_in (by omega) (by omega)), nI_clamp (by omega), hT.2 k c]
    by_cases c0 : (43 : Int32) = T k
    · rw [if_pos (show Int32.ofNat ([43, 45].getD (0 : Int32).toNatClampNeg 0) = T k from c0), if_pos c0]
    rw [if_neg (show ¬ Int32.ofNat ([43, 45].getD (0 : Int32).toNatClampNeg 0) = T k from c0), if_neg c0, show (0 : Int32) + 1 = 1 from rfl]
    rw [hq_M_among_2_0, if_pos (by decide), hp, hT.1, if_pos (nI_lt c (by omega)), if_pos (by decide), if_pos (hx_in (by omega) (by omega)), nI_clamp (by omega), hT.2 k c]
    by_cases c1 : (45 : Int32) = T k
    · rw [if_pos (show Int32.ofNat ([43, 45].getD (1 : Int32).toNatClampNeg 0) = T k from c1), if_pos c1]
    rw [if_neg (show ¬ Int32.ofNat ([43, 45].getD (1 : Int32).toNatClampNeg 0) = T k from c1), if_neg c1, show (1 : Int32) + 1 = 2 from rfl]
    rw [hq_M_among_2_0, if_neg (by decide), hq_M_among_46_0]
  · rw [hq_M_among_2_0, if_pos (by decide), hp, hT.1, if_neg (nI_nlt (by omega) (by omega)), hq_M_among_46_0, hk.2.2 k (by omega)]
    rfl
def hx_a1 (c : Int32) : Int32 := if (48 : Int32) = c then 0 else if (49 : Int32) = c then 1 else if (50 : Int32) = c then 2 else if (51 : Int32) = c then 3 else -1
theorem hx_am1 (d : Nat) {μ : hs_M} {m : Nat} {T : Nat → Int32} (hk : hx_Tk m T) (hT : hx_TR μ m T) {k : Nat} (hkm : k ≤ m) (hp : μ.1 12 0 14 = nI k) : hc_M_among (d + 1) 1 μ = some (some (vI (hx_a1 (T k))), μ) := by
  have h80 := hk.1
  rw [hq_M_among_0_1]
  by_cases c : k < m
  · unfold hx_a1
    rw [hq_M_among_2_1, if_pos (by decide), hp, hT.1, if_pos (nI_lt c (by omega)), if_pos (by decide), if_pos (hx_in (by omega) (by omega)), nI_clamp (by omega), hT.2 k c]
    by_cases c0 : (48 : Int32) = T k
    · rw [if_pos (show Int32.ofNat ([48, 49, 50, 51].getD (0 : Int32).toNatClampNeg 0) = T k from c0), if_pos c0]
    rw [if_neg (show ¬ Int32.ofNat ([48, 49, 50, 51].getD (0 : Int32).toNatClampNeg 0) = T k from c0), if_neg c0, show (0 : Int32) + 1 = 1 from rfl]
    rw [hq_M_among_2_1, if_pos (by decide), hp, hT.1, if_pos (nI_lt c (by omega)), if_pos (by decide), if_pos (hx_in (by omega) (by omega)), nI_clamp (by omega), hT.2 k c]
    by_cases c1 : (49 : Int32) = T k
    · rw [if_pos (show Int32.ofNat ([48, 49, 50, 51].getD (1 : Int32).toNatClampNeg 0) = T k from c1), if_pos c1]
    rw [if_neg (show ¬ Int32.ofNat ([48, 49, 50, 51].getD (1 : Int32).toNatClampNeg 0) = T k from c1), if_neg c1, show (1 : Int32) + 1 = 2 from rfl]
    rw [hq_M_among_2_1, if_pos (by decide), hp, hT.1, if_pos (nI_lt c (by omega)), if_pos (by decide), if_pos (hx_in (by omega) (by omega)), nI_clamp (by omega), hT.2 k c]
    by_cases c2 : (50 : Int32) = T k
    · rw [if_pos (show Int32.ofNat ([48, 49, 50, 51].getD (2 : Int32).toNatClampNeg 0) = T k from c2), if_pos c2]
    rw [if_neg (show ¬ Int32.ofNat ([48, 49, 50, 51].getD (2 : Int32).toNatClampNeg 0) = T k from c2), if_neg c2, show (2 : Int32) + 1 = 3 from rfl]
    rw [hq_M_among_2_1, if_pos (by decide), hp, hT.1, if_pos (nI_lt c (by omega)), if_pos (by decide), if_pos (hx_in (by omega) (by omega)), nI_clamp (by omega), hT.2 k c]
    by_cases c3 : (51 : Int32) = T k
    · rw [if_pos (show Int32.ofNat ([48, 49, 50, 51].getD (3 : Int32).toNatClampNeg 0) = T k from c3), if_pos c3]
    rw [if_neg (show ¬ Int32.ofNat ([48, 49, 50, 51].getD (3 : Int32).toNatClampNeg 0) = T k from c3), if_neg c3, show (3 : Int32) + 1 = 4 from rfl]
    rw [hq_M_among_2_1, if_neg (by decide), hq_M_among_46_1]
  · rw [hq_M_among_2_1, if_pos (by decide), hp, hT.1, if_neg (nI_nlt (by omega) (by omega)), hq_M_among_46_1, hk.2.2 k (by omega)]
    rfl
def hx_a2 (c : Int32) : Int32 := if (105 : Int32) = c then 0 else if (119 : Int32) = c then 1 else if (112 : Int32) = c then 2 else if (118 : Int32) = c then 3 else if (113 : Int32) = c then 4 else if (115 : Int32) = c then 5 else if (116 : Int32) = c then 6 else if (111 : Int32) = c then 7 else if (110 : Int32) = c then 8 else -1
theorem hx_am2 (d : Nat) {μ : hs_M} {m : Nat} {T : Nat → Int32} (hk : hx_Tk m T) (hT : hx_TR μ m T) {k : Nat} (hkm : k ≤ m) (hp : μ.1 12 0 14 = nI k) : hc_M_among (d + 1) 2 μ = some (some (vI (hx_a2 (T k))), μ) := by
  have h80 := hk.1
  rw [hq_M_among_0_2]
  by_cases c : k < m
  · unfold hx_a2
    rw [hq_M_among_2_2, if_pos (by decide), hp, hT.1, if_pos (nI_lt c (by omega)), if_pos (by decide), if_pos (hx_in (by omega) (by omega)), nI_clamp (by omega), hT.2 k c]
    by_cases c0 : (105 : Int32) = T k
    · rw [if_pos (show Int32.ofNat ([105, 119, 112, 118, 113, 115, 116, 111, 110].getD (0 : Int32).toNatClampNeg 0) = T k from c0), if_pos c0]
    rw [if_neg (show ¬ Int32.ofNat ([105, 119, 112, 118, 113, 115, 116, 111, 110].getD (0 : Int32).toNatClampNeg 0) = T k from c0), if_neg c0, show (0 : Int32) + 1 = 1 from rfl]
    rw [hq_M_among_2_2, if_pos (by decide), hp, hT.1, if_pos (nI_lt c (by omega)), if_pos (by decide), if_pos (hx_in (by omega) (by omega)), nI_clamp (by omega), hT.2 k c]
    by_cases c1 : (119 : Int32) = T k
    · rw [if_pos (show Int32.ofNat ([105, 119, 112, 118, 113, 115, 116, 111, 110].getD (1 : Int32).toNatClampNeg 0) = T k from c1), if_pos c1]
    rw [if_neg (show ¬ Int32.ofNat ([105, 119, 112, 118, 113, 115, 116, 111, 110].getD (1 : Int32).toNatClampNeg 0) = T k from c1), if_neg c1, show (1 : Int32) + 1 = 2 from rfl]
    rw [hq_M_among_2_2, if_pos (by decide), hp, hT.1, if_pos (nI_lt c (by omega)), if_pos (by decide), if_pos (hx_in (by omega) (by omega)), nI_clamp (by omega), hT.2 k c]
    by_cases c2 : (112 : Int32) = T k
    · rw [if_pos (show Int32.ofNat ([105, 119, 112, 118, 113, 115, 116, 111, 110].getD (2 : Int32).toNatClampNeg 0) = T k from c2), if_pos c2]
    rw [if_neg (show ¬ Int32.ofNat ([105, 119, 112, 118, 113, 115, 116, 111, 110].getD (2 : Int32).toNatClampNeg 0) = T k from c2), if_neg c2, show (2 : Int32) + 1 = 3 from rfl]
    rw [hq_M_among_2_2, if_pos (by decide), hp, hT.1, if_pos (nI_lt c (by omega)), if_pos (by decide), if_pos (hx_in (by omega) (by omega)), nI_clamp (by omega), hT.2 k c]
    by_cases c3 : (118 : Int32) = T k
    · rw [if_pos (show Int32.ofNat ([105, 119, 112, 118, 113, 115, 116, 111, 110].getD (3 : Int32).toNatClampNeg 0) = T k from c3), if_pos c3]
    rw [if_neg (show ¬ Int32.ofNat ([105, 119, 112, 118, 113, 115, 116, 111, 110].getD (3 : Int32).toNatClampNeg 0) = T k from c3), if_neg c3, show (3 : Int32) + 1 = 4 from rfl]
    rw [hq_M_among_2_2, if_pos (by decide), hp, hT.1, if_pos (nI_lt c (by omega)), if_pos (by decide), if_pos (hx_in (by omega) (by omega)), nI_clamp (by omega), hT.2 k c]
    by_cases c4 : (113 : Int32) = T k
    · rw [if_pos (show Int32.ofNat ([105, 119, 112, 118, 113, 115, 116, 111, 110].getD (4 : Int32).toNatClampNeg 0) = T k from c4), if_pos c4]
    rw [if_neg (show ¬ Int32.ofNat ([105, 119, 112, 118, 113, 115, 116, 111, 110].getD (4 : Int32).toNatClampNeg 0) = T k from c4), if_neg c4, show (4 : Int32) + 1 = 5 from rfl]
    rw [hq_M_among_2_2, if_pos (by decide), hp, hT.1, if_pos (nI_lt c (by omega)), if_pos (by decide), if_pos (hx_in (by omega) (by omega)), nI_clamp (by omega), hT.2 k c]
    by_cases c5 : (115 : Int32) = T k
    · rw [if_pos (show Int32.ofNat ([105, 119, 112, 118, 113, 115, 116, 111, 110].getD (5 : Int32).toNatClampNeg 0) = T k from c5), if_pos c5]
    rw [if_neg (show ¬ Int32.ofNat ([105, 119, 112, 118, 113, 115, 116, 111, 110].getD (5 : Int32).toNatClampNeg 0) = T k from c5), if_neg c5, show (5 : Int32) + 1 = 6 from rfl]
    rw [hq_M_among_2_2, if_pos (by decide), hp, hT.1, if_pos (nI_lt c (by omega)), if_pos (by decide), if_pos (hx_in (by omega) (by omega)), nI_clamp (by omega), hT.2 k c]
    by_cases c6 : (116 : Int32) = T k
    · rw [if_pos (show Int32.ofNat ([105, 119, 112, 118, 113, 115, 116, 111, 110].getD (6 : Int32).toNatClampNeg 0) = T k from c6), if_pos c6]
    rw [if_neg (show ¬ Int32.ofNat ([105, 119, 112, 118, 113, 115, 116, 111, 110].getD (6 : Int32).toNatClampNeg 0) = T k from c6), if_neg c6, show (6 : Int32) + 1 = 7 from rfl]
    rw [hq_M_among_2_2, if_pos (by decide), hp, hT.1, if_pos (nI_lt c (by omega)), if_pos (by decide), if_pos (hx_in (by omega) (by omega)), nI_clamp (by omega), hT.2 k c]
    by_cases c7 : (111 : Int32) = T k
    · rw [if_pos (show Int32.ofNat ([105, 119, 112, 118, 113, 115, 116, 111, 110].getD (7 : Int32).toNatClampNeg 0) = T k from c7), if_pos c7]
    rw [if_neg (show ¬ Int32.ofNat ([105, 119, 112, 118, 113, 115, 116, 111, 110].getD (7 : Int32).toNatClampNeg 0) = T k from c7), if_neg c7, show (7 : Int32) + 1 = 8 from rfl]
    rw [hq_M_among_2_2, if_pos (by decide), hp, hT.1, if_pos (nI_lt c (by omega)), if_pos (by decide), if_pos (hx_in (by omega) (by omega)), nI_clamp (by omega), hT.2 k c]
    by_cases c8 : (110 : Int32) = T k
    · rw [if_pos (show Int32.ofNat ([105, 119, 112, 118, 113, 115, 116, 111, 110].getD (8 : Int32).toNatClampNeg 0) = T k from c8), if_pos c8]
    rw [if_neg (show ¬ Int32.ofNat ([105, 119, 112, 118, 113, 115, 116, 111, 110].getD (8 : Int32).toNatClampNeg 0) = T k from c8), if_neg c8, show (8 : Int32) + 1 = 9 from rfl]
    rw [hq_M_among_2_2, if_neg (by decide), hq_M_among_46_2]
  · rw [hq_M_among_2_2, if_pos (by decide), hp, hT.1, if_neg (nI_nlt (by omega) (by omega)), hq_M_among_46_2, hk.2.2 k (by omega)]
    rfl
def hx_a3 (c : Int32) : Int32 := if (60 : Int32) = c then 0 else if (62 : Int32) = c then 1 else if (61 : Int32) = c then 2 else -1
theorem hx_am3 (d : Nat) {μ : hs_M} {m : Nat} {T : Nat → Int32} (hk : hx_Tk m T) (hT : hx_TR μ m T) {k : Nat} (hkm : k ≤ m) (hp : μ.1 12 0 14 = nI k) : hc_M_among (d + 1) 3 μ = some (some (vI (hx_a3 (T k))), μ) := by
  have h80 := hk.1
  rw [hq_M_among_0_3]
  by_cases c : k < m
  · unfold hx_a3
    rw [hq_M_among_2_3, if_pos (by decide), hp, hT.1, if_pos (nI_lt c (by omega)), if_pos (by decide), if_pos (hx_in (by omega) (by omega)), nI_clamp (by omega), hT.2 k c]
    by_cases c0 : (60 : Int32) = T k
    · rw [if_pos (show Int32.ofNat ([60, 62, 61].getD (0 : Int32).toNatClampNeg 0) = T k from c0), if_pos c0]
    rw [if_neg (show ¬ Int32.ofNat ([60, 62, 61].getD (0 : Int32).toNatClampNeg 0) = T k from c0), if_neg c0, show (0 : Int32) + 1 = 1 from rfl]
    rw [hq_M_among_2_3, if_pos (by decide), hp, hT.1, if_pos (nI_lt c (by omega)), if_pos (by decide), if_pos (hx_in (by omega) (by omega)), nI_clamp (by omega), hT.2 k c]
    by_cases c1 : (62 : Int32) = T k
    · rw [if_pos (show Int32.ofNat ([60, 62, 61].getD (1 : Int32).toNatClampNeg 0) = T k from c1), if_pos c1]
    rw [if_neg (show ¬ Int32.ofNat ([60, 62, 61].getD (1 : Int32).toNatClampNeg 0) = T k from c1), if_neg c1, show (1 : Int32) + 1 = 2 from rfl]
    rw [hq_M_among_2_3, if_pos (by decide), hp, hT.1, if_pos (nI_lt c (by omega)), if_pos (by decide), if_pos (hx_in (by omega) (by omega)), nI_clamp (by omega), hT.2 k c]
    by_cases c2 : (61 : Int32) = T k
    · rw [if_pos (show Int32.ofNat ([60, 62, 61].getD (2 : Int32).toNatClampNeg 0) = T k from c2), if_pos c2]
    rw [if_neg (show ¬ Int32.ofNat ([60, 62, 61].getD (2 : Int32).toNatClampNeg 0) = T k from c2), if_neg c2, show (2 : Int32) + 1 = 3 from rfl]
    rw [hq_M_among_2_3, if_neg (by decide), hq_M_among_46_3]
  · rw [hq_M_among_2_3, if_pos (by decide), hp, hT.1, if_neg (nI_nlt (by omega) (by omega)), hq_M_among_46_3, hk.2.2 k (by omega)]
    rfl
def hx_a4 (c : Int32) : Int32 := if (42 : Int32) = c then 0 else if (47 : Int32) = c then 1 else -1
theorem hx_am4 (d : Nat) {μ : hs_M} {m : Nat} {T : Nat → Int32} (hk : hx_Tk m T) (hT : hx_TR μ m T) {k : Nat} (hkm : k ≤ m) (hp : μ.1 12 0 14 = nI k) : hc_M_among (d + 1) 4 μ = some (some (vI (hx_a4 (T k))), μ) := by
  have h80 := hk.1
  rw [hq_M_among_0_4]
  by_cases c : k < m
  · unfold hx_a4
    rw [hq_M_among_2_4, if_pos (by decide), hp, hT.1, if_pos (nI_lt c (by omega)), if_pos (by decide), if_pos (hx_in (by omega) (by omega)), nI_clamp (by omega), hT.2 k c]
    by_cases c0 : (42 : Int32) = T k
    · rw [if_pos (show Int32.ofNat ([42, 47].getD (0 : Int32).toNatClampNeg 0) = T k from c0), if_pos c0]
    rw [if_neg (show ¬ Int32.ofNat ([42, 47].getD (0 : Int32).toNatClampNeg 0) = T k from c0), if_neg c0, show (0 : Int32) + 1 = 1 from rfl]
    rw [hq_M_among_2_4, if_pos (by decide), hp, hT.1, if_pos (nI_lt c (by omega)), if_pos (by decide), if_pos (hx_in (by omega) (by omega)), nI_clamp (by omega), hT.2 k c]
    by_cases c1 : (47 : Int32) = T k
    · rw [if_pos (show Int32.ofNat ([42, 47].getD (1 : Int32).toNatClampNeg 0) = T k from c1), if_pos c1]
    rw [if_neg (show ¬ Int32.ofNat ([42, 47].getD (1 : Int32).toNatClampNeg 0) = T k from c1), if_neg c1, show (1 : Int32) + 1 = 2 from rfl]
    rw [hq_M_among_2_4, if_neg (by decide), hq_M_among_46_4]
  · rw [hq_M_among_2_4, if_pos (by decide), hp, hT.1, if_neg (nI_nlt (by omega) (by omega)), hq_M_among_46_4, hk.2.2 k (by omega)]
    rfl
