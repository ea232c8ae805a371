/-! ===== E: words of the pure proof: binds, frames, loops, bits ===== -/
theorem hx_bI {ρ : Type} (x : Int32) (μ : hs_M) (k : Int32 → hs_M → Option ρ) : hs_bI (some (some (vI x), μ)) k = k x μ := rfl
theorem hx_bL {ρ : Type} (x : Int64) (μ : hs_M) (k : Int64 → hs_M → Option ρ) : hs_bL (some (some (vL x), μ)) k = k x μ := rfl
theorem hx_bV {ρ : Type} (μ : hs_M) (k : hs_M → Option ρ) : hs_bV (some (none, μ)) k = k μ := rfl
theorem hx_rz0 (μ : hs_M) : hs_rz 0 μ = some (some (vI 0), μ) := if_pos (by decide)
theorem hx_rz1 (μ : hs_M) : hs_rz 1 μ = some (some (vI 1), μ) := if_pos (by decide)
theorem hx_in {k n : Nat} (h : k < n) (hn : n < 2 ^ 31) : hs_in (nI k) n = true := by
  unfold hs_in
  rw [nI_clamp (by omega), decide_eq_true (nI_pos' (by omega)), decide_eq_true h]
  rfl
def hx_fr (X : Nat → Nat → Nat → Prop) (μ μ' : hs_M) : Prop := (∀ κ j i, ¬ X κ j i → μ'.1 κ j i = μ.1 κ j i) ∧ (∀ κ j i, ¬ X κ j i → μ'.2 κ j i = μ.2 κ j i)
theorem hx_rf (X : Nat → Nat → Nat → Prop) (μ : hs_M) : hx_fr X μ μ := ⟨fun _ _ _ _ => rfl, fun _ _ _ _ => rfl⟩
theorem hx_tr {X : Nat → Nat → Nat → Prop} {μ μ1 μ2 : hs_M} (a : hx_fr X μ μ1) (b : hx_fr X μ1 μ2) : hx_fr X μ μ2 :=
  ⟨fun κ j i h => (b.1 κ j i h).trans (a.1 κ j i h), fun κ j i h => (b.2 κ j i h).trans (a.2 κ j i h)⟩
theorem hx_mo {X Y : Nat → Nat → Nat → Prop} {μ μ' : hs_M} (h : ∀ κ j i, X κ j i → Y κ j i) (a : hx_fr X μ μ') : hx_fr Y μ μ' :=
  ⟨fun κ j i n => a.1 κ j i (fun x => n (h κ j i x)), fun κ j i n => a.2 κ j i (fun x => n (h κ j i x))⟩
theorem hx_rd (μ : hs_M) (κ j i : Nat) (v : Int32) (a b c : Nat) : (hs_wI μ κ j i v).1 a b c = if a = κ ∧ c = i ∧ b = j then v else μ.1 a b c := rfl
theorem hx_rd2 (μ : hs_M) (κ j i : Nat) (v : Int32) (a b c : Nat) : (hs_wI μ κ j i v).2 a b c = μ.2 a b c := rfl
theorem hx_rl (μ : hs_M) (κ j i : Nat) (v : Int64) (a b c : Nat) : (hs_wL μ κ j i v).2 a b c = if a = κ ∧ c = i ∧ b = j then v else μ.2 a b c := rfl
theorem hx_rl1 (μ : hs_M) (κ j i : Nat) (v : Int64) (a b c : Nat) : (hs_wL μ κ j i v).1 a b c = μ.1 a b c := rfl
theorem hx_rc (μ : hs_M) (κ j sp κ' j' dp n a b c : Nat) : (hs_cp μ κ j sp κ' j' dp n).1 a b c = if a = κ' ∧ b = j' ∧ dp ≤ c ∧ c < dp + n then μ.1 κ j (sp + (c - dp)) else μ.1 a b c := rfl
theorem hx_rc2 (μ : hs_M) (κ j sp κ' j' dp n a b c : Nat) : (hs_cp μ κ j sp κ' j' dp n).2 a b c = μ.2 a b c := rfl
theorem hx_wr {X : Nat → Nat → Nat → Prop} {μ μ' : hs_M} (a : hx_fr X μ μ') {κ j i : Nat} (v : Int32) (h : X κ j i) : hx_fr X μ (hs_wI μ' κ j i v) := by
  refine ⟨fun a' b' c' n => ?_, a.2⟩
  rw [hx_rd, if_neg, a.1 a' b' c' n]
  rintro ⟨rfl, rfl, rfl⟩
  exact n h
theorem hx_wl {X : Nat → Nat → Nat → Prop} {μ μ' : hs_M} (a : hx_fr X μ μ') {κ j i : Nat} (v : Int64) (h : X κ j i) : hx_fr X μ (hs_wL μ' κ j i v) := by
  refine ⟨a.1, fun a' b' c' n => ?_⟩
  rw [hx_rl, if_neg, a.2 a' b' c' n]
  rintro ⟨rfl, rfl, rfl⟩
  exact n h
theorem hx_wc {X : Nat → Nat → Nat → Prop} {μ μ' : hs_M} (a : hx_fr X μ μ') {κ j sp κ' j' dp n : Nat} (h : ∀ i, dp ≤ i → i < dp + n → X κ' j' i) : hx_fr X μ (hs_cp μ' κ j sp κ' j' dp n) := by
  refine ⟨fun a' b' c' m => ?_, a.2⟩
  rw [hx_rc, if_neg, a.1 a' b' c' m]
  rintro ⟨rfl, rfl, h1, h2⟩
  exact m (h _ h1 h2)
theorem hx_lp {α : Type} {run : Nat → hs_M → Option α} {I : Nat → hs_M → Prop} {N : Nat} (step : ∀ k μ, k < N → I k μ → ∃ μ', run k μ = run (k + 1) μ' ∧ I (k + 1) μ') : ∀ (n k : Nat) (μ : hs_M), k + n = N → I k μ → ∃ μ', run k μ = run N μ' ∧ I N μ'
  | 0, k, μ, h, i => ⟨μ, by rw [show k = N from h], by rw [← show k = N from h]; exact i⟩
  | n + 1, k, μ, h, i => by
    obtain ⟨μ1, e1, i1⟩ := step k μ (by omega) i
    obtain ⟨μ2, e2, i2⟩ := hx_lp step n (k + 1) μ1 (by omega) i1
    exact ⟨μ2, e1.trans e2, i2⟩
/-- with a way out -/
theorem hx_lq {α : Type} {run : Nat → hs_M → Option α} {I : Nat → hs_M → Prop} {N : Nat} {Q : Option α → Prop} (step : ∀ k μ, k < N → I k μ → (∃ μ', run k μ = run (k + 1) μ' ∧ I (k + 1) μ') ∨ Q (run k μ)) (last : ∀ μ, I N μ → Q (run N μ)) : ∀ (n k : Nat) (μ : hs_M), k + n = N → I k μ → Q (run k μ)
  | 0, k, μ, h, i => by
    have e : k = N := h
    subst e
    exact last μ i
  | n + 1, k, μ, h, i => by
    rcases step k μ (by omega) i with ⟨μ1, e1, i1⟩ | q
    · rw [e1]
      exact hx_lq step last n (k + 1) μ1 (by omega) i1
    · exact q
/-! bits (the first rows are the kit's own, pasted) -/
def bt (x : Int32) (i : Nat) : Bool := x.toBitVec.getLsbD i
theorem b_ext {x y : Int32} (h : ∀ i, i < 32 → bt x i = bt y i) : x = y := Int32.toBitVec_inj.mp (BitVec.eq_of_getLsbD_eq (fun i hi => h i hi))
theorem b_or (x y : Int32) (i : Nat) : bt (x ||| y) i = (bt x i || bt y i) := by unfold bt; rw [Int32.toBitVec_or, BitVec.getLsbD_or]
theorem b_and (x y : Int32) (i : Nat) : bt (x &&& y) i = (bt x i && bt y i) := by unfold bt; rw [Int32.toBitVec_and, BitVec.getLsbD_and]
theorem b_xor (x y : Int32) (i : Nat) : bt (x ^^^ y) i = (bt x i ^^ bt y i) := by unfold bt; rw [Int32.toBitVec_xor, BitVec.getLsbD_xor]
theorem b_big {x : Int32} {i : Nat} (h : 32 ≤ i) : bt x i = false := BitVec.getLsbD_of_ge _ _ h
theorem b_255 (i : Nat) : bt 255 i = decide (i < 8) := by
  rcases Nat.lt_or_ge i 32 with h | h
  · exact (by decide +kernel : ∀ i, i < 32 → bt 255 i = decide (i < 8)) i h
  · rw [b_big h, decide_eq_false (by omega)]
theorem b_m1 : ∀ i, i < 32 → bt (-1) i = true := by decide +kernel
theorem b_0 (i : Nat) : bt 0 i = false := BitVec.getLsbD_zero
theorem s_l : ∀ n, n < 32 → ((nI n &&& 31).toBitVec.smod 32).toNat = n := by decide +kernel
theorem b_shl (n : Nat) (hn : n < 32) (x : Int32) {i : Nat} (hi : i < 32) : bt (x <<< (nI n &&& 31)) i = (decide (n ≤ i) && bt x (i - n)) := by
  unfold bt
  rw [Int32.toBitVec_shiftLeft]
  show (x.toBitVec <<< ((nI n &&& 31).toBitVec.smod 32).toNat).getLsbD i = _
  rw [s_l n hn, BitVec.getLsbD_shiftLeft]
  rcases Nat.lt_or_ge i n with h | h
  · simp [h, Nat.not_le.mpr h]
  · simp [hi, h, Nat.not_lt.mpr h]
theorem b_sshr (n : Nat) (hn : n < 32) (x : Int32) {i : Nat} (hi : i < 32) : bt (x >>> (nI n &&& 31)) i = if n + i < 32 then bt x (n + i) else bt x 31 := by
  unfold bt
  rw [Int32.toBitVec_shiftRight]
  show (x.toBitVec.sshiftRight ((nI n &&& 31).toBitVec.smod 32).toNat).getLsbD i = _
  rw [s_l n hn, BitVec.getLsbD_sshiftRight, BitVec.msb_eq_getLsbD_last]
  simp [hi]
theorem hx_b1 (i : Nat) : bt 1 i = decide (i = 0) := by
  rcases Nat.lt_or_ge i 32 with h | h
  · exact (by decide +kernel : ∀ i, i < 32 → bt 1 i = decide (i = 0)) i h
  · rw [b_big h, decide_eq_false (by omega)]
theorem hx_bit (x : Int32) {k : Nat} (hk : k < 32) : ((x >>> (nI k &&& 31)) &&& 1) = if bt x k then 1 else 0 := by
  apply b_ext
  intro i hi
  rw [b_and, hx_b1, b_sshr k hk x hi]
  by_cases h : i = 0
  · subst h
    rw [Nat.add_zero, if_pos hk]
    cases bt x k <;> decide
  · rw [decide_eq_false h, Bool.and_false]
    cases bt x k
    · exact (b_0 i).symm
    · exact ((hx_b1 i).trans (decide_eq_false h)).symm
theorem hx_one {k i : Nat} (hk : k < 32) (hi : i < 32) : bt ((1 : Int32) <<< (nI k &&& 31)) i = decide (i = k) := by
  rw [b_shl k hk _ hi, hx_b1]
  by_cases h : i = k
  · subst h
    simp
  · rw [decide_eq_false h]
    by_cases h2 : k ≤ i
    · rw [decide_eq_false (by omega : ¬ i - k = 0), Bool.and_false]
    · rw [decide_eq_false h2, Bool.false_and]
theorem hx_not (x : Int32) {i : Nat} (hi : i < 32) : bt (x ^^^ (-1)) i = !bt x i := by
  rw [b_xor, b_m1 i hi]
  cases bt x i <;> rfl
theorem hx_nb (n : Nat) {i : Nat} (hi : i < 32) : bt (nI n) i = n.testBit i := by
  show (BitVec.ofNat 32 n).getLsbD i = _
  rw [BitVec.getLsbD_ofNat, decide_eq_true hi, Bool.true_and]
/-- a truth as a number -/
def hx_tn (b : Bool) : Int32 := if b then 1 else 0
theorem hx_tn0 {ρ : Type} (b : Bool) (A B : ρ) : (if hx_tn b = 0 then A else B) = if b then B else A := by cases b <;> rfl
theorem hx_tn1 {ρ : Type} (b : Bool) (A B : ρ) : (if hx_tn b = 1 then A else B) = if b then A else B := by cases b <;> rfl
theorem hx_tnz (b : Bool) (μ : hs_M) : hs_rz (hx_tn b) μ = some (some (vI (hx_tn b)), μ) := by cases b <;> rfl
theorem hx_bt0 {ρ : Type} (x : Int32) {k : Nat} (hk : k < 32) (A B : ρ) : (if ((x >>> (nI k &&& 31)) &&& 1) = 0 then A else B) = if bt x k then B else A := by
  rw [hx_bit x hk]
  cases bt x k <;> rfl
theorem hx_has (d : Nat) (x : Int32) {k : Nat} (hk : k < 32) (μ : hs_M) : hc_M_has (d + 1) x (nI k) μ = some (some (vI (hx_tn (bt x k))), μ) := by
  rw [hq_M_has, hx_bit x hk]
  cases bt x k <;> rfl
theorem hx_flag (d : Nat) (b : Bool) (μ : hs_M) : hc_M_flag (d + 1) (hx_tn b) μ = some (some (vI (hx_tn b)), μ) := by
  rw [hq_M_flag]
  cases b <;> rfl
theorem hx_flag1 (d : Nat) (μ : hs_M) : hc_M_flag (d + 1) 1 μ = some (some (vI 1), μ) := hx_flag d true μ
theorem hx_flag0 (d : Nat) (μ : hs_M) : hc_M_flag (d + 1) 0 μ = some (some (vI 0), μ) := hx_flag d false μ
theorem hx_lives (d j : Nat) {k : Nat} (hk : k < 32) (μ : hs_M) : hc_State_lives (d + 1) j (nI k) μ = some (some (vI (hx_tn (bt (μ.1 6 j 3) k))), μ) := by
  rw [hq_State_lives, hx_bt0 _ hk]
  cases bt (μ.1 6 j 3) k <;> rfl
/-! numbers -/
def hx_mx (a b : Int32) : Int32 := if a < b then b else a
def hx_mn (a b : Int32) : Int32 := if b < a then b else a
theorem hx_max (d : Nat) (a b : Int32) (μ : hs_M) : hc_Math_max (d + 1) a b μ = some (some (vI (hx_mx a b)), μ) := by
  rw [hq_Math_max]
  unfold hx_mx
  split <;> rfl
theorem hx_min (d : Nat) (a b : Int32) (μ : hs_M) : hc_Math_min (d + 1) a b μ = some (some (vI (hx_mn a b)), μ) := by
  rw [hq_Math_min]
  unfold hx_mn
  split <;> rfl
theorem hx_xor (a b : Nat) : nI a ^^^ nI b = nI (a ^^^ b) := by
  apply Int32.toBitVec_inj.1
  show BitVec.ofNat 32 a ^^^ BitVec.ofNat 32 b = BitVec.ofNat 32 (a ^^^ b)
  apply BitVec.eq_of_getLsbD_eq
  intro i hi
  simp [hi]
theorem hx_fm (d : Nat) {a b : Nat} (ha : a < 2 ^ 31) (hb : 0 < b) (hb' : b < 2 ^ 31) (μ : hs_M) : hc_Math_floorMod (d + 1) (nI a) (nI b) μ = some (some (vI (nI (a % b))), μ) := by
  rw [hq_Math_floorMod, if_neg (nI_ne0 hb hb'), hx_xor, if_neg (nI_pos (Nat.xor_lt_two_pow ha hb')), hq_Math_floorMod_18, pk_rem ha hb hb']
def hx_ic (x : Int32) : Int32 := if x < 1 then 1 else if 999 < x then 999 else x
theorem hx_inB (d : Nat) (x : Int32) (μ : hs_M) : hc_H_inBounds (d + 1) x μ = some (some (vI (hx_ic x)), μ) := by
  rw [hq_H_inBounds]
  unfold hx_ic
  split
  · rfl
  · split <;> rfl
theorem hx_li (a b : Int32) : a < b ↔ a.toInt < b.toInt := Int32.lt_iff_toInt_lt
theorem hx_le (a b : Int32) : a ≤ b ↔ a.toInt ≤ b.toInt := Int32.le_iff_toInt_le
theorem hx_ei (a b : Int32) : a = b ↔ a.toInt = b.toInt := Int32.toInt_inj.symm
theorem hx_mm (x : Int32) : hx_mx 1 (hx_mn 999 x) = hx_ic x := by
  have e1 : (1 : Int32).toInt = 1 := by decide
  have e9 : (999 : Int32).toInt = 999 := by decide
  unfold hx_mx hx_mn hx_ic
  by_cases h1 : x < 999
  · rw [if_pos h1]
    by_cases h2 : 1 < x
    · rw [if_pos h2, if_neg, if_neg]
      · rw [hx_li] at *
        omega
      · rw [hx_li] at *
        omega
    · rw [if_neg h2]
      by_cases h3 : x < 1
      · rw [if_pos h3]
      · rw [if_neg h3, if_neg]
        · rw [hx_ei]
          rw [hx_li] at *
          omega
        · rw [hx_li] at *
          omega
  · rw [if_neg h1, if_pos (by decide), if_neg]
    · by_cases h2 : 999 < x
      · rw [if_pos h2]
      · rw [if_neg h2, hx_ei]
        rw [hx_li] at *
        omega
    · rw [hx_li] at *
      omega
/-- what the scale shows: grain, off, weight -/
def hx_sh (g o w : Int32) : Int32 := if w + o < 0 then 0 else (w + o) - ((w + o) - (w + o) / g * g)
theorem hx_shows (d : Nat) (w : Int32) {μ : hs_M} {g : Nat} (hg : μ.1 5 0 0 = nI g) (h1 : 1 ≤ g) (h9 : g ≤ 9) : hc_Scale_shows (d + 1) w μ = some (some (vI (hx_sh (nI g) (μ.1 5 0 1) w)), μ) := by
  rw [hq_Scale_shows, hg]
  unfold hx_sh
  by_cases h : w + μ.1 5 0 1 < 0
  · rw [if_pos h, if_pos h]
  · rw [if_neg h, if_neg h, if_neg (show ¬ nI g < (1 : Int32) from nI_nlt (a := g) (b := 1) h1 (by omega)), if_neg (nI_ne0 h1 (by omega))]
theorem hx_showsM (d : Nat) (w : Int32) {μ : hs_M} {g : Nat} (hg : μ.1 12 0 8 = nI g) (h1 : 1 ≤ g) (h9 : g ≤ 9) : hc_M_shows (d + 2) w μ = some (some (vI (hx_sh (nI g) (μ.1 12 0 9) w)), μ) := by
  rw [hq_M_shows, hx_max, hx_bI, hg, if_neg (nI_ne0 h1 (by omega))]
  unfold hx_sh hx_mx
  have e0 : (0 : Int32).toInt = 0 := by decide
  by_cases h : w + μ.1 12 0 9 < 0
  · rw [if_pos h, if_neg]
    · have e : (0 : Int32) / nI g = 0 := by
        have := pk_div (a := 0) (d := g) (by omega) h1 (by omega)
        rw [Nat.zero_div] at this
        exact this
      rw [e]
      simp
    · rw [hx_li] at *
      omega
  · rw [if_neg h]
    by_cases h2 : 0 < w + μ.1 12 0 9
    · rw [if_pos h2]
    · rw [if_neg h2]
      have e : (0 : Int32) = w + μ.1 12 0 9 := by
        rw [hx_ei]
        rw [hx_li] at *
        omega
      rw [← e]
