/-! ===== E: year, its weeks ===== -/
noncomputable def hx_yr (E : hx_Env) : List Int32 → Nat → hx_St → Nat × Bool × hx_St
  | [], c, s => (c, false, s)
  | b :: L, c, s => if b < ((1 : Int32) <<< (nI (hx_P E) &&& 31)) then hx_yr E L (c + 1) (hx_stp E s (bt b)) else (c, true, s)
theorem hx_yrS (E : hx_Env) (b : Int32) (L : List Int32) (c : Nat) (s : hx_St) : hx_yr E (b :: L) c s = if b < ((1 : Int32) <<< (nI (hx_P E) &&& 31)) then hx_yr E L (c + 1) (hx_stp E s (bt b)) else (c, true, s) := rfl
theorem hx_yrb {E : hx_Env} : ∀ (L : List Int32) (c : Nat) (s : hx_St), (hx_yr E L c s).2.1 = decide ((hx_yr E L c s).1 < c + L.length) ∧ c ≤ (hx_yr E L c s).1 ∧ (hx_yr E L c s).1 ≤ c + L.length
  | [], c, s => ⟨(decide_eq_false (Nat.lt_irrefl c)).symm, Nat.le_refl c, Nat.le_refl c⟩
  | b :: L, c, s => by
    rw [hx_yrS, List.length_cons]
    by_cases z : b < ((1 : Int32) <<< (nI (hx_P E) &&& 31))
    · rw [if_pos z]
      have := hx_yrb (E := E) L (c + 1) (hx_stp E s (bt b))
      rw [show c + 1 + L.length = c + (L.length + 1) by omega] at this
      exact ⟨this.1, by omega, this.2.2⟩
    · rw [if_neg z]
      exact ⟨(decide_eq_true (show c < c + (L.length + 1) by omega)).symm, Nat.le_refl c, by show c ≤ c + (L.length + 1); omega⟩
theorem hx_yrt {E : hx_Env} (h8 : hx_P E ≤ 8) : ∀ (L : List Int32) (c W : Nat) (s : hx_St), W + L.length < 2 ^ 30 → hx_tw (hx_P E) W s → hx_tw (hx_P E) (W + L.length) (hx_yr E L c s).2.2
  | [], c, W, s, hW, ht => ht
  | b :: L, c, W, s, hW, ht => by
    rw [List.length_cons] at hW ⊢
    rw [hx_yrS]
    by_cases z : b < ((1 : Int32) <<< (nI (hx_P E) &&& 31))
    · rw [if_pos z]
      have := hx_yrt h8 L (c + 1) (W + 1) (hx_stp E s (bt b)) (by omega) (hx_stw h8 (by omega) ht _)
      rw [show W + 1 + L.length = W + (L.length + 1) by omega] at this
      exact this
    · rw [if_neg z]
      exact hx_twm ht (by omega)
theorem hx_yor : ∀ q, q < 256 → ∀ j, j < 8 → (nI q ||| ((1 : Int32) <<< (nI j &&& 31))) = nI (q ||| 2 ^ j) ∧ (q ||| 2 ^ j) < 256 := by decide +kernel
theorem hx_yev : ∀ P, P ≤ 8 → ∀ q, q < 256 → ((nI q &&& ((((1 : Int32) <<< (nI P &&& 31)) - 1) ^^^ (-1)) = 0) ↔ nI q < ((1 : Int32) <<< (nI P &&& 31))) := by decide +kernel
/-- the reference's weeks -/
theorem hx_ypM (d : Nat) {E : hx_Env} (h8 : hx_P E ≤ 8) {n : Nat} (hn : n ≤ 61) : ∀ (L : List Int32) (c W : Nat) (s : hx_St) (μ : hs_M), 1 ≤ c → c + L.length = n → (∀ i v, L[i]? = some v → μ.1 56 0 (c + i) = v) → μ.1 12 0 31 = nI n → hx_ER μ E → hx_SR μ 45 0 s → W + L.length < 2 ^ 30 → hx_tw (hx_P E) W s → ∃ μ', he_M_year_68 (d + 3) (nI c) μ = he_M_year_123 (d + 3) (nI (hx_yr E L c s).1) μ' ∧ hx_fr (fun κ b i => b = 0 ∧ (κ = 45 ∨ (κ = 12 ∧ i = 27))) μ μ' ∧ hx_SR μ' 45 0 (hx_yr E L c s).2.2
  | [], c, W, s, μ, hc, hl, hL, h31, hE, hs, hW, ht => by
    have e : c = n := hl
    rw [hq_M_year_68, h31, if_neg (nI_nlt (by omega) (by omega))]
    exact ⟨μ, rfl, hx_rf _ _, hs⟩
  | b :: L, c, W, s, μ, hc, hl, hL, h31, hE, hs, hW, ht => by
    rw [List.length_cons] at hl hW
    have hb : μ.1 56 0 c = b := hL 0 b rfl
    rw [hq_M_year_68, h31, if_pos (nI_lt (by omega) (by omega)), if_pos (hx_in (by omega) (by omega)), nI_clamp (by omega), hb, hE.2.1, hx_yrS]
    by_cases z : b < ((1 : Int32) <<< (nI (hx_P E) &&& 31))
    · obtain ⟨μ1, e1, f1, s1, _⟩ := hx_goes d (κ := 45) (Or.inl rfl) hE (W := W) (by omega) ht hs b
      have f1' : hx_fr (fun κ b i => b = 0 ∧ (κ = 45 ∨ (κ = 12 ∧ i = 27))) μ μ1 := hx_mo (fun κ b i z => by unfold hx_xG at z; omega) f1
      obtain ⟨μ', e2, f2, s2⟩ := hx_ypM d h8 hn L (c + 1) (W + 1) (hx_stp E s (bt b)) μ1 (by omega) (by omega) (fun i v h => by
        have := hL (i + 1) v h
        rw [f1'.1 56 0 _ (by omega), show c + 1 + i = c + (i + 1) by omega, this]) (by rw [f1'.1 12 0 31 (by omega), h31]) (hx_ERf f1' (by intro κ i a b; unfold hx_rF at a; omega) hE) s1 (by omega) (hx_stw h8 (by omega) ht _)
      rw [if_pos z, if_pos z, if_neg (nI_ne0 hc (by omega)), hq_M_year_102, if_pos (hx_in (by omega) (by omega)), nI_clamp (by omega), hb, e1, hx_bV, nI_1]
      exact ⟨μ', e2, hx_tr f1' f2, s2⟩
    · rw [if_neg z, if_neg z]
      exact ⟨μ, rfl, hx_rf _ _, hs⟩
/-- the class: one sign on -/
theorem hx_y34 (d : Nat) {m : Nat} {T : Nat → Int32} (hk : hx_Tk m T) {μ : hs_M} (hT : hx_TC μ m T) {k : Nat} (hkm : k ≤ m) (c : Int32) (b : Int32) : he_H_passYear_34 (d + 1) c b 0 (nI (m + 1)) (nI k) μ = if hx_rg 97 104 (T k) = true then he_H_passYear_34 (d + 1) c (b ||| ((1 : Int32) <<< ((T k - 97) &&& 31))) 0 (nI (m + 1)) (nI (k + 1)) μ else he_H_passYear_83 (d + 1) c b 0 (nI (m + 1)) (nI k) μ := by
  have h80 := hk.1
  conv => lhs; rw [hq_H_passYear_34]
  rw [if_pos (nI_lt (by omega) (by omega)), if_pos (show (0 : Int32) = 0 from rfl), hx_sAt d hk hT (by omega), hx_bI, hx_if2, nI_1]
  rfl
/-- a text without a fault: its letters up to a week's end -/
theorem hx_ywC (d : Nat) {m : Nat} {T : Nat → Int32} (hk : hx_Tk m T) {μ : hs_M} (hT : hx_TC μ m T) (c : Int32) : ∀ (f k r q : Nat), k + f = m → q < 256 → (hx_yf T f k r).2 = true → ∃ k' q', k ≤ k' ∧ k' ≤ m ∧ q' < 256 ∧ he_H_passYear_34 (d + 1) c (nI q) 0 (nI (m + 1)) (nI k) μ = he_H_passYear_83 (d + 1) c (nI q') 0 (nI (m + 1)) (nI k') μ ∧ ((k' = m ∧ hx_ym T f k (nI q) = [nI q']) ∨ (k' < m ∧ hx_ym T f k (nI q) = nI q' :: hx_ym T (m - k' - 1) (k' + 1) 0 ∧ (hx_yf T (m - k' - 1) (k' + 1) 0).2 = true))
  | 0, k, r, q, hkf, hq, ho => by
    have e : k = m := hkf
    refine ⟨k, q, Nat.le_refl k, by omega, hq, ?_, Or.inl ⟨e, rfl⟩⟩
    rw [hx_y34 d hk hT (by omega), hk.2.2 k (by omega), if_neg (by decide)]
  | f + 1, k, r, q, hkf, hq, ho => by
    rw [hx_yfS] at ho
    rw [hx_y34 d hk hT (by omega), hx_ymS]
    by_cases c1 : T k = 59
    · rw [if_pos c1] at ho ⊢
      refine ⟨k, q, Nat.le_refl k, by omega, hq, ?_, Or.inr ⟨by omega, ?_, ?_⟩⟩
      · rw [c1, if_neg (by decide)]
      · rw [show m - k - 1 = f by omega]
      · rw [show m - k - 1 = f by omega]
        exact ho
    · rw [if_neg c1] at ho ⊢
      by_cases c2 : hx_yl r (T k) = true
      · rw [if_pos c2] at ho
        obtain ⟨a1, a2, a3⟩ := hx_ylc c2
        have h' := of_decide_eq_true c2
        have e1 : T k - 97 = nI (hx_yn (T k) - 1) := by
          conv => lhs; rw [a3]
          rw [show (97 : Int32) = nI 97 from rfl, pk_sub (by omega)]
          exact congrArg nI (by omega)
        obtain ⟨o1, o2⟩ := hx_yor q hq (hx_yn (T k) - 1) (by omega)
        rw [if_pos (show hx_rg 97 104 (T k) = true from decide_eq_true (by omega)), e1, o1]
        obtain ⟨k', q', b1, b2, b3, b4, b5⟩ := hx_ywC d hk hT c f (k + 1) (hx_yn (T k)) (q ||| 2 ^ (hx_yn (T k) - 1)) (by omega) o2 ho
        exact ⟨k', q', by omega, b2, b3, b4, b5⟩
      · rw [if_neg c2] at ho
        exact absurd (show false = true from ho) (by decide)
/-- stopped, or at its end -/
theorem hx_yend (d : Nat) (c b : Int32) {m k : Nat} (hm : m ≤ 80) (μ : hs_M) : (k ≤ m + 1 → he_H_passYear_34 d c b 1 (nI (m + 1)) (nI k) μ = he_H_passYear_135 d c 1 μ) ∧ (k = m + 1 → he_H_passYear_34 d c b 0 (nI (m + 1)) (nI k) μ = he_H_passYear_135 d c 0 μ) := by
  constructor
  · intro h
    rw [hq_H_passYear_34]
    by_cases z : k < m + 1
    · rw [if_pos (nI_lt z (by omega)), if_neg (by decide)]
    · rw [if_neg (nI_nlt (by omega) (by omega))]
  · intro h
    rw [hq_H_passYear_34, if_neg (nI_nlt (by omega) (by omega))]
