/-! ===== E: the most weeks by choice: pure part ===== -/
theorem hx_winw {E : hx_Env} {t : hx_St} {P W : Nat} (hP : P = hx_P E) (ht : hx_tw P W t) (S : Nat → Bool) : hx_wr8 P (hx_win E t S P) ∧ hx_wr8 P (hx_wo t (hx_win E t S P)) := by
  have a : hx_wr8 P (hx_win E t S P) := by
    rcases hx_winr E t S P with e | ⟨p, hp, e, _⟩
    · exact Or.inl e
    · exact Or.inr ⟨p, hp, e⟩
  exact ⟨a, hx_woR ht a⟩
theorem hx_s8 {E : hx_Env} (h8 : hx_P E ≤ 8) {s : hx_St} {W : Nat} (ht : hx_tw (hx_P E) W s) (S : Nat → Bool) {i : Nat} (hi : i < 8) : hx_stp E s S (8 + i) = if hx_stp E s S 17 = nI i then s (8 + i) + 1 else s (8 + i) := by
  have hw := (hx_winw rfl ht S).2
  unfold hx_stp
  rw [hx_ftot h8 hw hi, hx_f17 h8 hw]
/-- if c does not win, it is as if c did not stand -/
theorem hx_drop1 {E : hx_Env} {s : hx_St} {S S' : Nat → Bool} {c : Nat} (hc : c < 2 ^ 31) (h1 : ∀ p, p ≠ c → S' p = S p) (h2 : S' c = false) : ∀ k, k < 2 ^ 31 → (hx_win E s S' k = hx_win E s S k ∧ hx_hv E s S' k = hx_hv E s S k) ∨ (hx_win E s S k = nI c ∧ c < k ∧ ¬ hx_hv E s S k < hx_hv E s S' k)
  | 0, _ => by
    left
    have n0 : ∀ S, ¬ hx_wcn E s S 0 := fun S x => x.1 (by show (-1 : Int32) < 0; decide)
    rw [hx_winF (n0 S'), hx_winF (n0 S), hx_hvF (n0 S'), hx_hvF (n0 S)]
    exact ⟨rfl, rfl⟩
  | k + 1, hk => by
    have ih := hx_drop1 hc h1 h2 k (by omega) (E := E) (s := s)
    have st : k ≠ c → hx_stn s S' k = hx_stn s S k := by
      intro z
      unfold hx_stn
      rw [h1 k z]
    have stc : hx_stn s S' c = false := by
      unfold hx_stn
      rw [h2, Bool.false_and]
    rcases ih with ⟨a, b⟩ | ⟨a, l, b⟩
    · by_cases z : k = c
      · subst z
        have u := hx_wsA (E := E) stc
        by_cases y : hx_stn s S k = true
        · by_cases x : hx_hv E s S k < hx_sw E (s k)
          · right
            have v := hx_wsC (by omega) y x
            rw [v.1, v.2, u.2, b]
            refine ⟨rfl, by omega, ?_⟩
            rw [hx_li] at *
            omega
          · left
            have v := hx_wsB (by omega) x
            rw [v.1, v.2, u.1, u.2]
            exact ⟨a, b⟩
        · left
          rw [Bool.not_eq_true] at y
          have v := hx_wsA (E := E) y
          rw [v.1, v.2, u.1, u.2]
          exact ⟨a, b⟩
      · left
        by_cases y : hx_stn s S k = true
        · by_cases x : hx_hv E s S k < hx_sw E (s k)
          · have v := hx_wsC (by omega) y x
            have u := hx_wsC (S := S') (E := E) (by omega) ((st z).trans y) (by rw [b]; exact x)
            rw [v.1, v.2, u.1, u.2]
            exact ⟨rfl, rfl⟩
          · have v := hx_wsB (by omega) x
            have u := hx_wsB (S := S') (E := E) (t := s) (k := k) (by omega) (by rw [b]; exact x)
            rw [v.1, v.2, u.1, u.2]
            exact ⟨a, b⟩
        · rw [Bool.not_eq_true] at y
          have v := hx_wsA (E := E) y
          have u := hx_wsA (E := E) ((st z).trans y)
          rw [v.1, v.2, u.1, u.2]
          exact ⟨a, b⟩
    · have z : k ≠ c := by omega
      by_cases y : hx_stn s S k = true
      · have y' := (st z).trans y
        by_cases x : hx_hv E s S k < hx_sw E (s k)
        · left
          have x' : hx_hv E s S' k < hx_sw E (s k) := by
            rw [hx_li] at *
            omega
          have v := hx_wsC (by omega) y x
          have u := hx_wsC (by omega) y' x'
          rw [v.1, v.2, u.1, u.2]
          exact ⟨rfl, rfl⟩
        · right
          have v := hx_wsB (by omega) x
          rw [v.1, v.2]
          refine ⟨a, by omega, ?_⟩
          by_cases x' : hx_hv E s S' k < hx_sw E (s k)
          · have u := hx_wsC (by omega) y' x'
            rw [u.2]
            exact x
          · have u := hx_wsB (by omega) x'
            rw [u.2]
            exact b
      · right
        rw [Bool.not_eq_true] at y
        have v := hx_wsA (E := E) y
        have u := hx_wsA (E := E) ((st z).trans y)
        rw [v.1, v.2, u.2]
        exact ⟨a, by omega, b⟩
def hx_oth (c : Nat) : Int32 := 255 &&& (((1 : Int32) <<< (nI c &&& 31)) ^^^ (-1))
def hx_mS (E : hx_Env) (c : Nat) (s : hx_St) (b : Bool) : Nat → Bool := hx_sa E s (if b = true then (1 : Int32) <<< (nI c &&& 31) else 0) (hx_oth c)
theorem hx_bo {c p : Nat} (hc : c < 8) (hp : p < 8) : bt (hx_oth c) p = decide (p ≠ c) := by
  unfold hx_oth
  rw [b_and, b_255, decide_eq_true hp, hx_not _ (by omega), hx_one (by omega) (by omega), Bool.true_and]
  by_cases e : p = c
  · rw [decide_eq_true e, decide_eq_false (fun x => x e)]
    rfl
  · rw [decide_eq_false e, decide_eq_true e]
    rfl
theorem hx_noeff {E : hx_Env} (h8 : hx_P E ≤ 8) {s : hx_St} {c : Nat} (hc : c < hx_P E) (h : s 17 = nI c ∨ hx_win E s (hx_mS E c s true) (hx_P E) ≠ nI c) : hx_stp E s (hx_mS E c s true) = hx_stp E s (hx_mS E c s false) := by
  have one : ∀ p, p < 8 → p ≠ c → bt ((1 : Int32) <<< (nI c &&& 31)) p = false := fun p hp z => by rw [hx_one (by omega) (by omega), decide_eq_false z]
  rcases h with h | h
  · unfold hx_stp
    have e : ∀ n, n ≤ 8 → hx_gB E s (hx_mS E c s true) n = hx_gB E s (hx_mS E c s false) n := by
      intro n
      induction n with
      | zero => intro _; rfl
      | succ n ih =>
        intro hn
        have e2 : hx_stn s (hx_mS E c s true) n = hx_stn s (hx_mS E c s false) n := by
          by_cases z : n = c
          · subst z
            unfold hx_stn
            rw [decide_eq_true h.symm, Bool.not_true, Bool.and_false, Bool.and_false, Bool.and_false]
          · unfold hx_stn hx_mS hx_sa
            rw [if_pos rfl, if_neg (by decide), one n (by omega) z, b_0]
        rw [hx_gBS, hx_gBS, ih (by omega), e2]
    have e3 : hx_win E s (hx_mS E c s true) (hx_P E) = hx_win E s (hx_mS E c s false) (hx_P E) := by
      unfold hx_win hx_wcn
      rw [e _ h8]
    rw [e3]
  · have d := hx_drop1 (E := E) (s := s) (S := fun p => if p < 8 then hx_mS E c s true p else false) (S' := fun p => if p < 8 then hx_mS E c s false p else false) (c := c) (by omega) (by
      intro p z
      skip
      by_cases hp : p < 8
      · rw [if_pos hp, if_pos hp]
        unfold hx_mS hx_sa
        rw [if_pos rfl, if_neg (by decide), one p hp z, b_0]
      · rw [if_neg hp, if_neg hp]) (by
      skip
      rw [if_pos (by omega)]
      unfold hx_mS hx_sa
      rw [if_neg (by decide), b_0, hx_bo (by omega) (by omega), decide_eq_false (fun x => x rfl)]
      rfl) (hx_P E) (by omega)
    have e1 : hx_win E s (fun p => if p < 8 then hx_mS E c s true p else false) (hx_P E) = hx_win E s (hx_mS E c s true) (hx_P E) := hx_wic (fun p hp _ => if_pos (by omega))
    have e2 : hx_win E s (fun p => if p < 8 then hx_mS E c s false p else false) (hx_P E) = hx_win E s (hx_mS E c s false) (hx_P E) := hx_wic (fun p hp _ => if_pos (by omega))
    rw [e1, e2] at d
    rcases d with ⟨a, _⟩ | ⟨a, _⟩
    · unfold hx_stp
      rw [a]
    · exact absurd a h
/-- the weeks by a set of weeks -/
noncomputable def hx_mt (E : hx_Env) (c : Nat) (t : hx_St) (set : Nat) : Nat → hx_St
  | 0 => t
  | k + 1 => hx_stp E (hx_mt E c t set k) (hx_mS E c (hx_mt E c t set k) (set.testBit k))
theorem hx_mtS (E : hx_Env) (c : Nat) (t : hx_St) (set k : Nat) : hx_mt E c t set (k + 1) = hx_stp E (hx_mt E c t set k) (hx_mS E c (hx_mt E c t set k) (set.testBit k)) := rfl
noncomputable def hx_mc (E : hx_Env) (c : Nat) (t : hx_St) (set : Nat) : Nat → Nat
  | 0 => 0
  | k + 1 => hx_mc E c t set k + (if hx_mt E c t set (k + 1) 17 = nI c then 1 else 0)
theorem hx_mcS (E : hx_Env) (c : Nat) (t : hx_St) (set k : Nat) : hx_mc E c t set (k + 1) = hx_mc E c t set k + (if hx_mt E c t set (k + 1) 17 = nI c then 1 else 0) := rfl
theorem hx_mttw {E : hx_Env} (h8 : hx_P E ≤ 8) (c set : Nat) {t : hx_St} {W : Nat} (ht : hx_tw (hx_P E) W t) : ∀ n, W + n < 2 ^ 30 → hx_tw (hx_P E) (W + n) (hx_mt E c t set n)
  | 0, _ => ht
  | n + 1, h => hx_stw h8 (by omega) (hx_mttw h8 c set ht n (by omega)) _
theorem hx_mcle (E : hx_Env) (c : Nat) (t : hx_St) (set : Nat) : ∀ k m, hx_mc E c t set (k + m) ≤ hx_mc E c t set k + m
  | k, 0 => Nat.le_refl _
  | k, m + 1 => by
    have := hx_mcle E c t set k m
    rw [show k + (m + 1) = k + m + 1 from rfl, hx_mcS]
    split <;> omega
theorem hx_mtot {E : hx_Env} (h8 : hx_P E ≤ 8) {c : Nat} (hc : c < 8) (set : Nat) {t : hx_St} {W : Nat} (ht : hx_tw (hx_P E) W t) : ∀ n, W + n < 2 ^ 30 → hx_mt E c t set n (8 + c) - t (8 + c) = nI (hx_mc E c t set n)
  | 0, _ => Int32.sub_self _
  | n + 1, h => by
    have ih := hx_mtot h8 hc set ht n (by omega)
    have e := hx_s8 h8 (hx_mttw h8 c set ht n (by omega)) (hx_mS E c (hx_mt E c t set n) (set.testBit n)) hc
    rw [← hx_mtS] at e
    rw [e, hx_mcS]
    split
    · rw [Int32.sub_eq_add_neg, Int32.add_assoc, Int32.add_comm 1, ← Int32.add_assoc, ← Int32.sub_eq_add_neg, ih, nI_1]
    · rw [ih, Nat.add_zero]
theorem hx_mtc (E : hx_Env) (c : Nat) (t : hx_St) {a b : Nat} : ∀ k, (∀ i, i < k → a.testBit i = b.testBit i) → hx_mt E c t a k = hx_mt E c t b k ∧ hx_mc E c t a k = hx_mc E c t b k
  | 0, _ => ⟨rfl, rfl⟩
  | k + 1, h => by
    obtain ⟨i1, i2⟩ := hx_mtc E c t k (fun i hi => h i (by omega))
    have e : hx_mt E c t a (k + 1) = hx_mt E c t b (k + 1) := by rw [hx_mtS, hx_mtS, i1, h k (by omega)]
    refine ⟨e, ?_⟩
    rw [hx_mcS, hx_mcS, i2, e]
/-- a set without a bit that does nothing -/
theorem hx_mtd {E : hx_Env} {c : Nat} {t : hx_St} {a b k : Nat} (h1 : ∀ i, i ≠ k → a.testBit i = b.testBit i) (h2 : hx_stp E (hx_mt E c t a k) (hx_mS E c (hx_mt E c t a k) (a.testBit k)) = hx_stp E (hx_mt E c t a k) (hx_mS E c (hx_mt E c t a k) (b.testBit k))) : ∀ n, hx_mt E c t a n = hx_mt E c t b n ∧ hx_mc E c t a n = hx_mc E c t b n
  | 0 => ⟨rfl, rfl⟩
  | n + 1 => by
    obtain ⟨i1, i2⟩ := hx_mtd h1 h2 n
    have e : hx_mt E c t a (n + 1) = hx_mt E c t b (n + 1) := by
      rw [hx_mtS, hx_mtS, ← i1]
      by_cases z : n = k
      · subst z
        exact h2
      · rw [h1 n z]
    refine ⟨e, ?_⟩
    rw [hx_mcS, hx_mcS, i2, e]
/-! numbers of bits -/
def hx_pp (a : Nat) : Nat → Nat
  | 0 => 0
  | k + 1 => hx_pp a k + (if a.testBit k then 1 else 0)
theorem hx_ppc {a b : Nat} : ∀ n, (∀ i, i < n → a.testBit i = b.testBit i) → hx_pp a n = hx_pp b n
  | 0, _ => rfl
  | n + 1, h => by
    unfold hx_pp
    rw [hx_ppc n (fun i hi => h i (by omega)), h n (by omega)]
theorem hx_ppd {a b k : Nat} (h1 : ∀ i, i ≠ k → a.testBit i = b.testBit i) (ha : a.testBit k = true) (hb : b.testBit k = false) : ∀ n, k < n → hx_pp a n = hx_pp b n + 1
  | 0, h => absurd h (by omega)
  | n + 1, h => by
    unfold hx_pp
    by_cases z : n = k
    · subst z
      rw [hx_ppc n (fun i hi => h1 i (by omega)), ha, hb]
      rfl
    · rw [hx_ppd h1 ha hb n (by omega), h1 n z]
      omega
def hx_us (x n : Int32) : Int32 := (x.toUInt32 >>> (n.toUInt32 &&& Int32.toUInt32 31)).toInt32
def hx_c1 (x : Int32) : Int32 := x - (hx_us x 1 &&& 1431655765)
def hx_c2 (x : Int32) : Int32 := (x &&& 858993459) + (hx_us x 2 &&& 858993459)
def hx_c3 (x : Int32) : Int32 := (x + hx_us x 4) &&& 252645135
def hx_c4 (x : Int32) : Int32 := x + hx_us x 8
def hx_c5 (x : Int32) : Int32 := x + hx_us x 16
theorem hx_bcE (d : Nat) (x : Int32) (μ : hs_M) : hc_Int_bitCount (d + 1) x μ = some (some (vI (hx_c5 (hx_c4 (hx_c3 (hx_c2 (hx_c1 x)))) &&& 63)), μ) := by
  rw [hq_Int_bitCount]
  rfl
set_option maxRecDepth 100000 in
theorem hx_bcN : ∀ a, a < 1024 → hx_c5 (hx_c4 (hx_c3 (hx_c2 (hx_c1 (nI a))))) &&& 63 = nI (hx_pp a 10) := by decide +kernel
theorem hx_bc (d : Nat) {a : Nat} (ha : a < 1024) (μ : hs_M) : hc_Int_bitCount (d + 1) (nI a) μ = some (some (vI (nI (hx_pp a 10))), μ) := by
  rw [hx_bcE, hx_bcN a ha]
/-- the one plan as good as the other -/
def hx_gq (w1 : Int) (p1 : Nat) (w2 : Int) (p2 : Nat) : Prop := w2 < w1 ∨ (w2 = w1 ∧ (hx_pp p1 10 < hx_pp p2 10 ∨ (hx_pp p1 10 = hx_pp p2 10 ∧ p1 ≤ p2)))
theorem hx_gqt {a b c : Int} {p q r : Nat} (h1 : hx_gq a p b q) (h2 : hx_gq b q c r) : hx_gq a p c r := by
  unfold hx_gq at *
  omega
theorem hx_gqa {a b : Int} {p q : Nat} (h1 : hx_gq a p b q) (h2 : hx_gq b q a p) : a = b ∧ p = q := by
  unfold hx_gq at *
  omega
theorem hx_gqr (a : Int) (p : Nat) : hx_gq a p a p := by
  unfold hx_gq
  omega
