/-! ===== E: the town, its will, its state, as pure things ===== -/
abbrev hx_Env : Type := Nat × ((Nat → Int32) × ((Nat → Int32) × ((Nat → Nat) × ((Nat → Nat → Int32) × (Nat × (Int32 × ((Nat → Int32) → Int32)))))))
abbrev hx_St : Type := Nat → Int32
def hx_P (E : hx_Env) : Nat := E.1
def hx_Pt (E : hx_Env) : Nat → Int32 := E.2.1
def hx_Il (E : hx_Env) : Nat → Int32 := E.2.2.1
def hx_Hl (E : hx_Env) : Nat → Nat := E.2.2.2.1
def hx_Hb (E : hx_Env) : Nat → Nat → Int32 := E.2.2.2.2.1
def hx_G (E : hx_Env) : Nat := E.2.2.2.2.2.1
def hx_O (E : hx_Env) : Int32 := E.2.2.2.2.2.2.1
def hx_V (E : hx_Env) : (Nat → Int32) → Int32 := E.2.2.2.2.2.2.2
def hx_ok (E : hx_Env) : Prop := hx_P E ≤ 8 ∧ (∀ i, i < hx_P E → hx_Hl E i ≤ 6) ∧ 1 ≤ hx_G E ∧ hx_G E ≤ 9 ∧ (∀ i, i < hx_P E → ∃ n, n ≤ 9 ∧ hx_Il E i = nI n) ∧ (-9 ≤ (hx_O E).toInt ∧ (hx_O E).toInt ≤ 9)
def hx_sw (E : hx_Env) (w : Int32) : Int32 := hx_sh (nI (hx_G E)) (hx_O E) w
/-- an act of the will: the reference's numbers -/
def hx_cmb (a : Nat) (x y : Int32) : Int32 :=
  if a = 0 then (if x < y then 1 else 0) else if a = 1 then (if y < x then 1 else 0) else if a = 2 then (if x = y then 1 else 0) else if a = 3 then x + y else if a = 4 then x - y else if a = 5 then x * y else (if y = 0 then 0 else x / y)
def hx_sg (c : Int32) : Nat := if c = 105 then 0 else if c = 110 then 8 else if c = 112 then 2 else if c = 113 then 4 else if c = 115 then 5 else if c = 116 then 6 else if c = 118 then 3 else if c = 119 then 1 else 7
def hx_op (c : Int32) : Nat := if c = 42 then 5 else if c = 43 then 3 else if c = 45 then 4 else if c = 47 then 6 else if c = 60 then 0 else if c = 62 then 1 else 2
def hx_un (st : List Int32) : Option (List Int32) := match st with
  | x :: l => some (-x :: l)
  | [] => none
def hx_bi (a : Nat) (st : List Int32) : Option (List Int32) := match st with
  | y :: x :: l => some (hx_cmb a x y :: l)
  | _ => none
def hx_tC (f : Nat → Int32) (c : Int32) (st : List Int32) : Option (List Int32) :=
  if c < 2000 then (if c < 1000 then some (c :: st) else some (f (hx_sg (c - 1000)) :: st)) else if c = 3000 then hx_un st else hx_bi (hx_op (c - 2000)) st
def hx_tR (f : Nat → Int32) (c : Int32) (st : List Int32) : Option (List Int32) :=
  if c = 3000 then hx_un st else if c < 2000 then (if c < 1000 then some (c :: st) else some (f (c - 1000).toNatClampNeg :: st)) else hx_bi (c - 2000).toNatClampNeg st
def hx_rn (tk : Int32 → List Int32 → Option (List Int32)) (c : Nat → Int32) : Nat → Nat → List Int32 → Option (List Int32)
  | 0, _, st => some st
  | n + 1, k, st => (tk (c k) st).bind (hx_rn tk c n (k + 1))
def hx_wC (μ : hs_M) (V : (Nat → Int32) → Int32) : Prop := ∃ n, n ≤ 40 ∧ μ.1 10 0 3 = nI n ∧ ((n = 0 ∧ ∀ f, V f = 1) ∨ (0 < n ∧ ∀ f, hx_rn (hx_tC f) (fun k => μ.1 21 0 k) n 0 [] = some [V f]))
/-- the reference's codes: facts are told by 0 to 8, acts by 0 to 6 -/
def hx_cR (c : Int32) : Prop := c < 1000 ∨ (∃ n, n ≤ 8 ∧ c = nI (1000 + n)) ∨ (∃ n, n ≤ 6 ∧ c = nI (2000 + n)) ∨ c = 3000
def hx_wR (μ : hs_M) (V : (Nat → Int32) → Int32) : Prop := ∃ n, n ≤ 80 ∧ μ.1 12 0 24 = nI n ∧ (∀ k, k < n → hx_cR (μ.1 52 0 k)) ∧ ((n = 0 ∧ ∀ f, V f = 1) ∨ (0 < n ∧ ∀ f, hx_rn (hx_tR f) (fun k => μ.1 52 0 k) n 0 [] = some [V f]))
def hx_EC (μ : hs_M) (E : hx_Env) : Prop := hx_ok E ∧ μ.1 8 0 9 = nI (hx_P E) ∧ (∀ i, i < hx_P E → μ.1 15 0 i = hx_Pt E i) ∧ (∀ i, i < hx_P E → μ.1 16 0 i = hx_Il E i) ∧ (∀ i, i < hx_P E → μ.1 17 0 i = nI (hx_Hl E i)) ∧ (∀ i k, i < hx_P E → k < hx_Hl E i → μ.1 18 0 (6 * i + k) = hx_Hb E i k) ∧ μ.1 5 0 0 = nI (hx_G E) ∧ μ.1 5 0 1 = hx_O E ∧ hx_wC μ (hx_V E)
def hx_ER (μ : hs_M) (E : hx_Env) : Prop := hx_ok E ∧ μ.1 12 0 3 = nI (hx_P E) ∧ (∀ i, i < hx_P E → μ.1 41 0 i = hx_Pt E i) ∧ (∀ i, i < hx_P E → μ.1 42 0 i = hx_Il E i) ∧ (∀ i, i < hx_P E → μ.1 44 0 i = nI (hx_Hl E i)) ∧ (∀ i k, i < hx_P E → k < hx_Hl E i → μ.1 43 0 (6 * i + k) = hx_Hb E i k) ∧ μ.1 12 0 8 = nI (hx_G E) ∧ μ.1 12 0 9 = hx_O E ∧ hx_wR μ (hx_V E)
theorem hx_oP {E : hx_Env} (h : hx_ok E) : hx_P E ≤ 8 := h.1
theorem hx_eP {μ : hs_M} {E : hx_Env} (h : hx_EC μ E) : μ.1 8 0 9 = nI (hx_P E) := h.2.1
theorem hx_rP {μ : hs_M} {E : hx_Env} (h : hx_ER μ E) : μ.1 12 0 3 = nI (hx_P E) := h.2.1
theorem hx_eS {μ : hs_M} {E : hx_Env} (h : hx_EC μ E) (d : Nat) (w : Int32) : hc_Scale_shows (d + 1) w μ = some (some (vI (hx_sw E w)), μ) := by
  rw [hx_shows d w h.2.2.2.2.2.2.1 h.1.2.2.1 h.1.2.2.2.1, h.2.2.2.2.2.2.2.1]
  rfl
theorem hx_rS {μ : hs_M} {E : hx_Env} (h : hx_ER μ E) (d : Nat) (w : Int32) : hc_M_shows (d + 2) w μ = some (some (vI (hx_sw E w)), μ) := by
  rw [hx_showsM d w h.2.2.2.2.2.2.1 h.1.2.2.1 h.1.2.2.2.1, h.2.2.2.2.2.2.2.1]
  rfl
/-- the cells that hold the town -/
def hx_cF (κ i : Nat) : Prop := (κ = 5 ∧ i < 2) ∨ (κ = 8 ∧ i = 9) ∨ (κ = 10 ∧ i = 3) ∨ (15 ≤ κ ∧ κ ≤ 18) ∨ κ = 21
def hx_rF (κ i : Nat) : Prop := (κ = 12 ∧ (i = 3 ∨ i = 8 ∨ i = 9 ∨ i = 24)) ∨ (41 ≤ κ ∧ κ ≤ 44) ∨ κ = 52
theorem hx_ECf {X : Nat → Nat → Nat → Prop} {μ μ' : hs_M} (f : hx_fr X μ μ') (hX : ∀ κ i, hx_cF κ i → ¬ X κ 0 i) {E : hx_Env} (h : hx_EC μ E) : hx_EC μ' E := by
  have g : ∀ κ i, hx_cF κ i → μ'.1 κ 0 i = μ.1 κ 0 i := fun κ i c => f.1 κ 0 i (hX κ i c)
  obtain ⟨h0, h1, h2, h3, h4, h5, h6, h7, n, h8, h9, h10⟩ := h
  refine ⟨h0, ?_, ?_, ?_, ?_, ?_, ?_, ?_, n, h8, ?_, ?_⟩
  · rw [g 8 9 (by unfold hx_cF; omega), h1]
  · intro i hi
    rw [g 15 i (by unfold hx_cF; omega), h2 i hi]
  · intro i hi
    rw [g 16 i (by unfold hx_cF; omega), h3 i hi]
  · intro i hi
    rw [g 17 i (by unfold hx_cF; omega), h4 i hi]
  · intro i k hi hk
    rw [g 18 _ (by unfold hx_cF; omega), h5 i k hi hk]
  · rw [g 5 0 (by unfold hx_cF; omega), h6]
  · rw [g 5 1 (by unfold hx_cF; omega), h7]
  · rw [g 10 3 (by unfold hx_cF; omega), h9]
  · have e : (fun k => μ'.1 21 0 k) = (fun k => μ.1 21 0 k) := funext fun k => g 21 k (by unfold hx_cF; omega)
    rw [e]
    exact h10
theorem hx_ERf {X : Nat → Nat → Nat → Prop} {μ μ' : hs_M} (f : hx_fr X μ μ') (hX : ∀ κ i, hx_rF κ i → ¬ X κ 0 i) {E : hx_Env} (h : hx_ER μ E) : hx_ER μ' E := by
  have g : ∀ κ i, hx_rF κ i → μ'.1 κ 0 i = μ.1 κ 0 i := fun κ i c => f.1 κ 0 i (hX κ i c)
  obtain ⟨h0, h1, h2, h3, h4, h5, h6, h7, n, h8, h9, h10, h11⟩ := h
  refine ⟨h0, ?_, ?_, ?_, ?_, ?_, ?_, ?_, n, h8, ?_, ?_, ?_⟩
  · rw [g 12 3 (by unfold hx_rF; omega), h1]
  · intro i hi
    rw [g 41 i (by unfold hx_rF; omega), h2 i hi]
  · intro i hi
    rw [g 42 i (by unfold hx_rF; omega), h3 i hi]
  · intro i hi
    rw [g 44 i (by unfold hx_rF; omega), h4 i hi]
  · intro i k hi hk
    rw [g 43 _ (by unfold hx_rF; omega), h5 i k hi hk]
  · rw [g 12 8 (by unfold hx_rF; omega), h6]
  · rw [g 12 9 (by unfold hx_rF; omega), h7]
  · rw [g 12 24 (by unfold hx_rF; omega), h9]
  · intro k hk
    rw [g 52 _ (by unfold hx_rF; omega)]
    exact h10 k hk
  · have e : (fun k => μ'.1 52 0 k) = (fun k => μ.1 52 0 k) := funext fun k => g 52 k (by unfold hx_rF; omega)
    rw [e]
    exact h11
/-! the state: told as the reference's row tells it -/
def hx_hc (t : hx_St) : Nat → Nat
  | 0 => 0
  | n + 1 => hx_hc t n + (if t (45 + n) < 0 then 1 else 0)
def hx_hold (t : hx_St) : Nat := hx_hc t (t 20).toNatClampNeg
def hx_hb (t : hx_St) : Nat → Int32
  | 0 => 0
  | n + 1 => if t (45 + n) < 0 then hx_hb t n ||| ((1 : Int32) <<< (nI n &&& 31)) else hx_hb t n
def hx_holds (t : hx_St) : Int32 := hx_hb t (t 20).toNatClampNeg
/-- well made: P people, at most W weeks gone -/
def hx_tw (P W : Nat) (t : hx_St) : Prop := (t 17 = -1 ∨ ∃ p, p < P ∧ t 17 = nI p) ∧ (∃ n, n ≤ W ∧ t 19 = nI n) ∧ (∃ L, L ≤ 12 ∧ t 20 = nI L ∧ ∀ k, k < L → t (45 + k) < 0 → ¬ t 17 < 0 ∧ t (21 + k) = t 17) ∧ (∀ p, p < P → ∃ n, 1 ≤ n ∧ n ≤ 999 ∧ t p = nI n)
/-- a state of the class holds it, as far as weeks to come ask -/
def hx_SC (μ : hs_M) (j : Nat) (t : hx_St) : Prop := (∀ i, i < 8 → μ.1 24 j i = t i) ∧ (∀ i, i < 8 → μ.1 25 j i = t (8 + i)) ∧ μ.1 6 j 3 = t 16 ∧ μ.1 6 j 1 = t 17 ∧ μ.1 6 j 2 = (if t 17 < 0 then 0 else t 18) ∧ μ.1 6 j 0 = t 19 ∧ μ.1 6 j 4 = hx_holds t ∧ μ.1 6 j 5 = nI (hx_hold t)
/-- all of it -/
def hx_SF (μ : hs_M) (j : Nat) (t : hx_St) : Prop := hx_SC μ j t ∧ μ.1 6 j 6 = t 20 ∧ (∀ k, k < 12 → μ.1 26 j k = t (21 + k)) ∧ (∀ k, k < 12 → μ.1 27 j k = t (33 + k)) ∧ (∀ k, k < 12 → μ.1 28 j k = t (45 + k)) ∧ (∀ k, k < 60 → μ.1 29 j k = t (57 + k))
/-- a row of the reference holds it -/
def hx_SR (μ : hs_M) (κ b : Nat) (t : hx_St) : Prop := ∀ i, i < 117 → μ.1 κ 0 (b + i) = t i
theorem hx_SCf {X : Nat → Nat → Nat → Prop} {μ μ' : hs_M} (f : hx_fr X μ μ') {j : Nat} (hX : ∀ κ i, (κ = 6 ∨ κ = 24 ∨ κ = 25) → ¬ X κ j i) {t : hx_St} (h : hx_SC μ j t) : hx_SC μ' j t := by
  have g : ∀ κ i, (κ = 6 ∨ κ = 24 ∨ κ = 25) → μ'.1 κ j i = μ.1 κ j i := fun κ i c => f.1 κ j i (hX κ i c)
  obtain ⟨h1, h2, h3, h4, h5, h6, h7, h8⟩ := h
  refine ⟨?_, ?_, ?_, ?_, ?_, ?_, ?_, ?_⟩
  · intro i hi
    rw [g 24 i (by omega), h1 i hi]
  · intro i hi
    rw [g 25 i (by omega), h2 i hi]
  · rw [g 6 3 (by omega), h3]
  · rw [g 6 1 (by omega), h4]
  · rw [g 6 2 (by omega), h5]
  · rw [g 6 0 (by omega), h6]
  · rw [g 6 4 (by omega), h7]
  · rw [g 6 5 (by omega), h8]
theorem hx_SFf {X : Nat → Nat → Nat → Prop} {μ μ' : hs_M} (f : hx_fr X μ μ') {j : Nat} (hX : ∀ κ i, (κ = 6 ∨ (24 ≤ κ ∧ κ ≤ 29)) → ¬ X κ j i) {t : hx_St} (h : hx_SF μ j t) : hx_SF μ' j t := by
  have g : ∀ κ i, (κ = 6 ∨ (24 ≤ κ ∧ κ ≤ 29)) → μ'.1 κ j i = μ.1 κ j i := fun κ i c => f.1 κ j i (hX κ i c)
  obtain ⟨h1, h2, h3, h4, h5, h6⟩ := h
  refine ⟨hx_SCf f (fun κ i c => hX κ i (by omega)) h1, ?_, ?_, ?_, ?_, ?_⟩
  · rw [g 6 6 (by omega), h2]
  · intro i hi
    rw [g 26 i (by omega), h3 i hi]
  · intro i hi
    rw [g 27 i (by omega), h4 i hi]
  · intro i hi
    rw [g 28 i (by omega), h5 i hi]
  · intro i hi
    rw [g 29 i (by omega), h6 i hi]
theorem hx_SRf {X : Nat → Nat → Nat → Prop} {μ μ' : hs_M} (f : hx_fr X μ μ') {κ b : Nat} (hX : ∀ i, i < 117 → ¬ X κ 0 (b + i)) {t : hx_St} (h : hx_SR μ κ b t) : hx_SR μ' κ b t := fun i hi => (f.1 κ 0 (b + i) (hX i hi)).trans (h i hi)
/-- the facts of the will -/
def hx_fc (E : hx_Env) (t : hx_St) (p a : Nat) : Int32 :=
  if a = 0 then nI p else if a = 1 then t p else if a = 2 then hx_Pt E p else if a = 3 then (if t 17 < 0 then 0 else t (t 17).toNatClampNeg) else if a = 4 then (if t 17 < 0 then -1 else hx_Pt E (t 17).toNatClampNeg) else if a = 5 then (if t 17 < 0 then 0 else t 18) else if a = 6 then nI (hx_hold t) else if a = 7 then t (8 + p) else t 19
def hx_ww (E : hx_Env) (t : hx_St) (p : Nat) : Int32 := hx_V E (hx_fc E t p)
theorem hx_who {P W : Nat} {t : hx_St} (h : hx_tw P W t) (h8 : P ≤ 8) : (t 17 < 0 ∧ t 17 = -1) ∨ (¬ t 17 < 0 ∧ ∃ p, p < P ∧ t 17 = nI p) := by
  rcases h.1 with e | ⟨p, hp, e⟩
  · left
    rw [e]
    exact ⟨by decide, rfl⟩
  · right
    rw [e]
    exact ⟨nI_pos (by omega), p, hp, rfl⟩
theorem hx_fact (d : Nat) {μ : hs_M} {E : hx_Env} (hE : hx_EC μ E) {W : Nat} {t : hx_St} (ht : hx_tw (hx_P E) W t) {j : Nat} (hs : hx_SC μ j t) {p : Nat} (hp : p < hx_P E) (c : Int32) : hc_Will_fact (d + 1) c j (nI p) μ = some (some (vI (hx_fc E t p (hx_sg c))), μ) := by
  have h8 : hx_P E ≤ 8 := hE.1.1
  obtain ⟨s1, s2, s3, s4, s5, s6, s7, s8⟩ := hs
  have hi : hs_in (nI p) 8 = true := hx_in (by omega) (by omega)
  have hcl : (nI p).toNatClampNeg = p := nI_clamp (by omega)
  rw [hq_Will_fact]
  unfold hx_sg
  by_cases c105 : c = 105
  · subst c105
    rw [if_pos rfl, if_pos rfl]
    rfl
  rw [if_neg c105, if_neg c105]
  by_cases c110 : c = 110
  · subst c110
    rw [if_neg (by decide), if_neg (by decide), if_neg (by decide), if_neg (by decide), if_pos rfl, if_pos rfl, s6]
    rfl
  rw [if_neg c110, if_neg c110]
  by_cases c112 : c = 112
  · subst c112
    rw [if_neg (by decide), if_neg (by decide), if_neg (by decide), if_neg (by decide), if_neg (by decide), if_pos rfl, if_pos rfl, if_pos hi, hcl, hE.2.2.1 p hp]
    rfl
  rw [if_neg c112, if_neg c112]
  by_cases c113 : c = 113
  · subst c113
    rw [if_neg (by decide), if_neg (by decide), if_neg (by decide), if_neg (by decide), if_neg (by decide), if_pos rfl, if_pos rfl, s4]
    rcases hx_who ht h8 with ⟨w, _⟩ | ⟨w, q, hq, e⟩
    · rw [if_pos w]
      simp only [hx_fc, if_pos w]
      rfl
    · rw [if_neg w]
      simp only [hx_fc, if_neg w]
      rw [e, if_pos (hx_in (by omega) (by omega)), nI_clamp (by omega), hE.2.2.1 q hq]
      rfl
  rw [if_neg c113, if_neg c113]
  by_cases c115 : c = 115
  · subst c115
    rw [if_neg (by decide), if_neg (by decide), if_neg (by decide), if_neg (by decide), if_neg (by decide), if_neg (by decide), if_pos rfl, if_pos rfl, s5]
    rfl
  rw [if_neg c115, if_neg c115]
  by_cases c116 : c = 116
  · subst c116
    rw [if_neg (by decide), if_neg (by decide), if_neg (by decide), if_neg (by decide), if_neg (by decide), if_neg (by decide), if_pos rfl, if_pos rfl, s8]
    rfl
  rw [if_neg c116, if_neg c116]
  by_cases c118 : c = 118
  · subst c118
    rw [if_neg (by decide), if_neg (by decide), if_neg (by decide), if_neg (by decide), if_neg (by decide), if_neg (by decide), if_neg (by decide), if_pos rfl, if_pos rfl, s4]
    rcases hx_who ht h8 with ⟨w, _⟩ | ⟨w, q, hq, e⟩
    · rw [if_pos w]
      simp only [hx_fc, if_pos w]
      rfl
    · rw [if_neg w]
      simp only [hx_fc, if_neg w]
      rw [e, if_pos (hx_in (by omega) (by omega)), nI_clamp (by omega), s1 q (by omega)]
      rfl
  rw [if_neg c118, if_neg c118]
  by_cases c119 : c = 119
  · subst c119
    rw [if_neg (by decide), if_neg (by decide), if_neg (by decide), if_neg (by decide), if_neg (by decide), if_neg (by decide), if_neg (by decide), if_pos rfl, if_pos rfl, if_pos hi, hcl, s1 p (by omega)]
    rfl
  rw [if_neg c119, if_neg c119]
  simp only [ite_self]
  rw [hq_Will_fact_145, if_pos hi, hcl, s2 p (by omega)]
  rfl
theorem hx_comb (d : Nat) (c x y : Int32) (μ : hs_M) : hc_Will_combine (d + 1) c x y μ = some (some (vI (hx_cmb (hx_op c) x y)), μ) := by
  rw [hq_Will_combine]
  unfold hx_op
  by_cases c42 : c = 42
  · rw [if_pos c42, if_pos c42]
    rfl
  rw [if_neg c42, if_neg c42]
  by_cases c43 : c = 43
  · rw [if_pos c43, if_pos c43]
    rfl
  rw [if_neg c43, if_neg c43]
  by_cases c45 : c = 45
  · rw [if_pos c45, if_pos c45]
    rfl
  rw [if_neg c45, if_neg c45]
  by_cases c47 : c = 47
  · rw [if_pos c47, if_pos c47]
    by_cases y0 : y = 0
    · rw [if_pos y0]
      simp only [hx_cmb, if_pos y0]
      rfl
    · rw [if_neg y0, if_neg y0]
      simp only [hx_cmb, if_neg y0]
      rfl
  rw [if_neg c47, if_neg c47]
  by_cases c60 : c = 60
  · rw [if_pos c60, if_pos c60]
    by_cases z : x < y
    · rw [if_pos z]
      simp only [hx_cmb, if_pos z]
      rfl
    · rw [if_neg z]
      simp only [hx_cmb, if_neg z]
      rfl
  rw [if_neg c60, if_neg c60]
  by_cases c62 : c = 62
  · rw [if_pos c62, if_pos c62]
    by_cases z : y < x
    · rw [if_pos z]
      simp only [hx_cmb, if_pos z]
      rfl
    · rw [if_neg z]
      simp only [hx_cmb, if_neg z]
      rfl
  rw [if_neg c62, if_neg c62]
  by_cases z : x = y
  · rw [if_pos z]
    simp only [hx_cmb, if_pos z]
    rfl
  · rw [if_neg z]
    simp only [hx_cmb, if_neg z]
    rfl
def hx_stk (μ : hs_M) (κ : Nat) : List Int32 → Prop
  | [] => True
  | x :: l => μ.1 κ 0 l.length = x ∧ hx_stk μ κ l
theorem hx_stkw {μ : hs_M} {κ i : Nat} {v : Int32} : ∀ {l : List Int32}, hx_stk μ κ l → l.length ≤ i → hx_stk (hs_wI μ κ 0 i v) κ l
  | [], _, _ => trivial
  | x :: l, h, hl => by
    rw [List.length_cons] at hl
    refine ⟨?_, hx_stkw h.2 (by omega)⟩
    rw [hx_rd, if_neg (by omega)]
    exact h.1
theorem hx_stkp {μ : hs_M} {κ i : Nat} (v : Int32) {l : List Int32} (h : hx_stk μ κ l) (hi : i = l.length) : hx_stk (hs_wI μ κ 0 i v) κ (v :: l) := by
  refine ⟨?_, hx_stkw h (by omega)⟩
  rw [hx_rd, if_pos ⟨rfl, hi.symm, rfl⟩]
def hx_xW (κ _ _ : Nat) : Prop := κ = 23
def hx_xV (κ _ _ : Nat) : Prop := κ = 54
theorem hx_valL (d : Nat) {E : hx_Env} {W : Nat} {t : hx_St} (ht : hx_tw (hx_P E) W t) {j p n : Nat} (hp : p < hx_P E) {c : Nat → Int32} (hn : n ≤ 40) {v : Int32} : ∀ (m k : Nat) (st : List Int32) (μ : hs_M), k + m = n → hx_EC μ E → hx_SC μ j t → μ.1 10 0 3 = nI n → (∀ k, μ.1 21 0 k = c k) → hx_stk μ 23 st → st.length ≤ k → hx_rn (hx_tC (hx_fc E t p)) c m k st = some [v] → ∃ μ', he_Will_value_15 (d + 1) j (nI p) (nI st.length) (nI k) μ = some (some (vI v), μ') ∧ hx_fr hx_xW μ μ'
  | 0, k, st, μ, hk, hE, hs, hz, hc, hst, hl, hr => by
    rw [hq_Will_value_15, hz, if_neg (nI_nlt (by omega) (by omega)), hq_Will_value_180]
    have e : st = [v] := Option.some.inj hr
    subst e
    refine ⟨μ, ?_, hx_rf _ _⟩
    have := hst.1
    rw [List.length_nil] at this
    rw [this]
  | m + 1, k, st, μ, hk, hE, hs, hz, hc, hst, hl, hr => by
    have go : ∀ (i : Nat) (x : Int32) (st' : List Int32), hx_stk (hs_wI μ 23 0 i x) 23 st' → st'.length ≤ k + 1 → hx_rn (hx_tC (hx_fc E t p)) c m (k + 1) st' = some [v] → ∃ μ', he_Will_value_174 (d + 1) j (nI p) (nI st'.length) (nI k) (hs_wI μ 23 0 i x) = some (some (vI v), μ') ∧ hx_fr hx_xW μ μ' := by
      intro i x st' h1 h2 h3
      have f : hx_fr hx_xW μ (hs_wI μ 23 0 i x) := hx_wr (hx_rf _ _) x rfl
      rw [hq_Will_value_174, nI_1]
      obtain ⟨μ', e, f'⟩ := hx_valL d ht hp hn m (k + 1) st' _ (by omega) (hx_ECf f (by intro κ i h x; unfold hx_cF at h; unfold hx_xW at x; omega) hE) (hx_SCf f (by intro κ i h x; unfold hx_xW at x; omega) hs) (by rw [hx_rd, if_neg (by omega), hz]) (by intro k; rw [hx_rd, if_neg (by omega), hc]) h1 h2 h3
      exact ⟨μ', e, hx_tr f f'⟩
    rw [hq_Will_value_15, hz, if_pos (nI_lt (by omega) (by omega)), if_pos (show nI k < (40 : Int32) from nI_lt (b := 40) (by omega) (by omega)), if_pos (hx_in (by omega) (by omega)), nI_clamp (by omega), hc]
    unfold hx_rn at hr
    obtain ⟨st', e1, hr⟩ := Option.bind_eq_some_iff.mp hr
    unfold hx_tC at e1
    by_cases a : c k < 2000
    · rw [if_pos a] at e1 ⊢
      rw [if_pos (show nI st.length < (40 : Int32) from nI_lt (b := 40) (by omega) (by omega)), if_pos (hx_in (by omega) (by omega)), nI_clamp (by omega)]
      by_cases b : c k < 1000
      · rw [if_pos b] at e1 ⊢
        rw [nI_1]
        have e := Option.some.inj e1
        subst e
        exact go _ _ _ (hx_stkp _ hst rfl) (by rw [List.length_cons]; omega) hr
      · rw [if_neg b] at e1 ⊢
        rw [hx_fact d hE ht hs hp, hx_bI, if_pos (hx_in (by omega) (by omega)), nI_1]
        have e := Option.some.inj e1
        subst e
        exact go _ _ _ (hx_stkp _ hst rfl) (by rw [List.length_cons]; omega) hr
    · rw [if_neg a] at e1 ⊢
      by_cases b : c k = 3000
      · rw [if_pos b] at e1 ⊢
        unfold hx_un at e1
        rcases st with _ | ⟨x, l⟩
        · cases e1
        · have e := Option.some.inj e1
          subst e
          rw [List.length_cons] at hl ⊢
          rw [show nI (l.length + 1) - 0 = nI (l.length + 1) from Int32.sub_zero _, if_neg (show ¬ nI (l.length + 1) < (1 : Int32) from nI_nlt (b := 1) (by omega) (by omega)), nI_pred, if_pos (hx_in (by omega) (by omega)), if_pos (hx_in (by omega) (by omega)), nI_clamp (by omega), hst.1]
          exact go _ _ (-x :: l) (hx_stkp _ hst.2 rfl) (by rw [List.length_cons]; omega) hr
      · rw [if_neg b] at e1 ⊢
        unfold hx_bi at e1
        rcases st with _ | ⟨y, _ | ⟨x, l⟩⟩
        · cases e1
        · cases e1
        · have e := Option.some.inj e1
          subst e
          rw [List.length_cons, List.length_cons] at hl ⊢
          rw [nI_pred, if_neg (show ¬ nI (l.length + 1) < (1 : Int32) from nI_nlt (b := 1) (by omega) (by omega)), nI_pred, if_pos (hx_in (by omega) (by omega)), if_pos (hx_in (by omega) (by omega)), nI_clamp (by omega), nI_clamp (by omega), hx_comb, hx_bI, if_pos (hx_in (by omega) (by omega))]
          have h1 := hst.1
          rw [List.length_cons] at h1
          rw [h1, hst.2.1]
          exact go _ _ (_ :: l) (hx_stkp _ hst.2.2 rfl) (by rw [List.length_cons]; omega) hr
theorem hx_value (d : Nat) {μ : hs_M} {E : hx_Env} (hE : hx_EC μ E) {W : Nat} {t : hx_St} (ht : hx_tw (hx_P E) W t) {j : Nat} (hs : hx_SC μ j t) {p : Nat} (hp : p < hx_P E) : ∃ μ', hc_Will_value (d + 2) j (nI p) μ = some (some (vI (hx_ww E t p)), μ') ∧ hx_fr hx_xW μ μ' := by
  obtain ⟨n, h8, h9, h10⟩ := hE.2.2.2.2.2.2.2.2
  rw [hq_Will_value, h9]
  rcases h10 with ⟨z, h⟩ | ⟨z, h⟩
  · subst z
    rw [if_pos nI_0]
    refine ⟨μ, ?_, hx_rf _ _⟩
    unfold hx_ww
    rw [h]
  · rw [if_neg (nI_ne0 z (by omega))]
    exact hx_valL d ht hp h8 n 0 [] μ (by omega) hE hs h9 (fun _ => rfl) trivial (Nat.le_refl 0) (h _)
