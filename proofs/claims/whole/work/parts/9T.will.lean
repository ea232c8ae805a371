/-! ===== E: will, how its text is read ===== -/
def hx_zo (c : Int32) : Int32 := if c = 60 then 0 else if c = 62 then 0 else if c = 61 then 0 else if c = 43 then 1 else if c = 45 then 1 else if c = 42 then 2 else if c = 47 then 2 else -1
theorem hx_zoe (c : Int32) : (hx_zo c = 0 ∧ (c = 60 ∨ c = 62 ∨ c = 61)) ∨ (hx_zo c = 1 ∧ (c = 43 ∨ c = 45)) ∨ (hx_zo c = 2 ∧ (c = 42 ∨ c = 47)) ∨ hx_zo c = -1 := by
  by_cases h60 : c = 60
  · exact Or.inl ⟨by rw [h60]; decide +kernel, Or.inl h60⟩
  by_cases h62 : c = 62
  · exact Or.inl ⟨by rw [h62]; decide +kernel, Or.inr (Or.inl h62)⟩
  by_cases h61 : c = 61
  · exact Or.inl ⟨by rw [h61]; decide +kernel, Or.inr (Or.inr h61)⟩
  by_cases h43 : c = 43
  · exact Or.inr (Or.inl ⟨by rw [h43]; decide +kernel, Or.inl h43⟩)
  by_cases h45 : c = 45
  · exact Or.inr (Or.inl ⟨by rw [h45]; decide +kernel, Or.inr h45⟩)
  by_cases h42 : c = 42
  · exact Or.inr (Or.inr (Or.inl ⟨by rw [h42]; decide +kernel, Or.inl h42⟩))
  by_cases h47 : c = 47
  · exact Or.inr (Or.inr (Or.inl ⟨by rw [h47]; decide +kernel, Or.inr h47⟩))
  refine Or.inr (Or.inr (Or.inr ?_))
  unfold hx_zo
  rw [if_neg h60, if_neg h62, if_neg h61, if_neg h43, if_neg h45, if_neg h42, if_neg h47]
theorem hx_zy0 {c : Int32} (h : hx_zo c = nI 0) : c = 60 ∨ c = 62 ∨ c = 61 := by
  rcases hx_zoe c with ⟨_, y⟩ | ⟨e, _⟩ | ⟨e, _⟩ | e
  · exact y
  · rw [e] at h
    exact absurd h (by decide +kernel)
  · rw [e] at h
    exact absurd h (by decide +kernel)
  · rw [e] at h
    exact absurd h (by decide +kernel)
theorem hx_zy1 {c : Int32} (h : hx_zo c = nI 1) : c = 43 ∨ c = 45 := by
  rcases hx_zoe c with ⟨e, _⟩ | ⟨_, y⟩ | ⟨e, _⟩ | e
  · rw [e] at h
    exact absurd h (by decide +kernel)
  · exact y
  · rw [e] at h
    exact absurd h (by decide +kernel)
  · rw [e] at h
    exact absurd h (by decide +kernel)
theorem hx_zy2 {c : Int32} (h : hx_zo c = nI 2) : c = 42 ∨ c = 47 := by
  rcases hx_zoe c with ⟨e, _⟩ | ⟨e, _⟩ | ⟨_, y⟩ | e
  · rw [e] at h
    exact absurd h (by decide +kernel)
  · rw [e] at h
    exact absurd h (by decide +kernel)
  · exact y
  · rw [e] at h
    exact absurd h (by decide +kernel)
theorem hx_zn0 {c : Int32} (h : hx_zo c ≠ nI 0) : c ≠ 60 ∧ c ≠ 62 ∧ c ≠ 61 := ⟨fun e => h (by rw [e]; decide +kernel), fun e => h (by rw [e]; decide +kernel), fun e => h (by rw [e]; decide +kernel)⟩
theorem hx_zn1 {c : Int32} (h : hx_zo c ≠ nI 1) : c ≠ 43 ∧ c ≠ 45 := ⟨fun e => h (by rw [e]; decide +kernel), fun e => h (by rw [e]; decide +kernel)⟩
theorem hx_zn2 {c : Int32} (h : hx_zo c ≠ nI 2) : c ≠ 42 ∧ c ≠ 47 := ⟨fun e => h (by rw [e]; decide +kernel), fun e => h (by rw [e]; decide +kernel)⟩
def hx_zf (c : Int32) : Bool := if c = 105 then true else if c = 106 then false else if c = 107 then false else if c = 108 then false else if c = 109 then false else if c = 110 then true else if c = 111 then true else if c = 112 then true else if c = 113 then true else if c = 114 then false else if c = 115 then true else if c = 116 then true else if c = 117 then false else if c = 118 then true else if c = 119 then true else false
theorem hx_zis (d : Nat) (c : Int32) (μ : hs_M) : hc_Will_isFact (d + 1) c μ = some (some (vI (hx_tn (hx_zf c))), μ) := by
  rw [hq_Will_isFact, hq_Will_isFact_76, hq_Will_isFact_78, hx_rz0, hx_rz1]
  unfold hx_zf
  by_cases h105 : c = 105
  · rw [if_pos h105, if_pos h105]
    rfl
  rw [if_neg h105, if_neg h105]
  by_cases h106 : c = 106
  · rw [if_pos h106, if_pos h106]
    rfl
  rw [if_neg h106, if_neg h106]
  by_cases h107 : c = 107
  · rw [if_pos h107, if_pos h107]
    rfl
  rw [if_neg h107, if_neg h107]
  by_cases h108 : c = 108
  · rw [if_pos h108, if_pos h108]
    rfl
  rw [if_neg h108, if_neg h108]
  by_cases h109 : c = 109
  · rw [if_pos h109, if_pos h109]
    rfl
  rw [if_neg h109, if_neg h109]
  by_cases h110 : c = 110
  · rw [if_pos h110, if_pos h110]
    rfl
  rw [if_neg h110, if_neg h110]
  by_cases h111 : c = 111
  · rw [if_pos h111, if_pos h111]
    rfl
  rw [if_neg h111, if_neg h111]
  by_cases h112 : c = 112
  · rw [if_pos h112, if_pos h112]
    rfl
  rw [if_neg h112, if_neg h112]
  by_cases h113 : c = 113
  · rw [if_pos h113, if_pos h113]
    rfl
  rw [if_neg h113, if_neg h113]
  by_cases h114 : c = 114
  · rw [if_pos h114, if_pos h114]
    rfl
  rw [if_neg h114, if_neg h114]
  by_cases h115 : c = 115
  · rw [if_pos h115, if_pos h115]
    rfl
  rw [if_neg h115, if_neg h115]
  by_cases h116 : c = 116
  · rw [if_pos h116, if_pos h116]
    rfl
  rw [if_neg h116, if_neg h116]
  by_cases h117 : c = 117
  · rw [if_pos h117, if_pos h117]
    rfl
  rw [if_neg h117, if_neg h117]
  by_cases h118 : c = 118
  · rw [if_pos h118, if_pos h118]
    rfl
  rw [if_neg h118, if_neg h118]
  by_cases h119 : c = 119
  · rw [if_pos h119, if_pos h119]
    rfl
  rw [if_neg h119, if_neg h119]
  rfl
def hx_zac (lv : Nat) (c : Int32) : Int32 := if lv = 0 then hx_a3 c else if lv = 1 then hx_a0 c else hx_a4 c
def hx_zao (lv : Nat) : Int32 := if lv = 0 then 0 else if lv = 1 then 3 else 5
theorem hx_zd1 : ∀ q, q < 256 → ∀ lv, lv < 3 → (hx_zac lv (nI q) < 0 ∧ hx_zo (nI q) ≠ nI lv) ∨ (¬ hx_zac lv (nI q) < 0 ∧ hx_zo (nI q) = nI lv ∧ hx_op (nI q) ≤ 6 ∧ 2000 + hx_zac lv (nI q) + hx_zao lv = nI (2000 + hx_op (nI q)) ∧ ¬ 2000 + nI q < 2000 ∧ ¬ 2000 + nI q = 3000 ∧ 2000 + nI q - 2000 = nI q) := by decide +kernel
theorem hx_zd2 : ∀ lv, lv < 3 → hx_zac lv (-1) < 0 ∧ hx_zo (-1) ≠ nI lv := by decide +kernel
theorem hx_zd3 : ∀ a, a ≤ 6 → ¬ nI (2000 + a) = 3000 ∧ ¬ nI (2000 + a) < 2000 ∧ (nI (2000 + a) - 2000).toNatClampNeg = a := by decide +kernel
theorem hx_zd4 : ∀ q, q < 256 → (hx_a2 (nI q) < 0 ∧ hx_zf (nI q) = false) ∨ (¬ hx_a2 (nI q) < 0 ∧ hx_zf (nI q) = true ∧ hx_rg 48 57 (nI q) = false ∧ ¬ nI q = 40 ∧ hx_sg (nI q) ≤ 8 ∧ 1000 + hx_a2 (nI q) = nI (1000 + hx_sg (nI q)) ∧ 1000 + nI q < 2000 ∧ ¬ 1000 + nI q < 1000 ∧ 1000 + nI q - 1000 = nI q) := by decide +kernel
theorem hx_zd5 : ∀ a, a ≤ 8 → ¬ nI (1000 + a) = 3000 ∧ nI (1000 + a) < 2000 ∧ ¬ nI (1000 + a) < 1000 ∧ (nI (1000 + a) - 1000).toNatClampNeg = a := by decide +kernel
theorem hx_zTs {m : Nat} {T : Nat → Int32} (hk : hx_Tk m T) (i : Nat) : (i < m ∧ ∃ c, c < 256 ∧ T i = nI c) ∨ (m ≤ i ∧ T i = -1) := by
  rcases Nat.lt_or_ge i m with z | z
  · exact Or.inl ⟨z, hk.2.1 i z⟩
  · exact Or.inr ⟨z, hk.2.2 i z⟩
theorem hx_zact {m : Nat} {T : Nat → Int32} (hk : hx_Tk m T) {lv : Nat} (hl : lv < 3) (k : Nat) : (hx_zac lv (T k) < 0 ∧ hx_zo (T k) ≠ nI lv) ∨ (¬ hx_zac lv (T k) < 0 ∧ k < m ∧ hx_zo (T k) = nI lv ∧ ∃ a, a ≤ 6 ∧ 2000 + hx_zac lv (T k) + hx_zao lv = nI (2000 + a) ∧ (∀ f st, hx_tC f (2000 + T k) st = hx_bi a st) ∧ ∀ f st, hx_tR f (nI (2000 + a)) st = hx_bi a st) := by
  rcases hx_zTs hk k with ⟨z, c, hc, e⟩ | ⟨_, e⟩
  · rw [e]
    rcases hx_zd1 c hc lv hl with a | ⟨a1, a2, a3, a4, a5, a6, a7⟩
    · exact Or.inl a
    · refine Or.inr ⟨a1, z, a2, hx_op (nI c), a3, a4, fun f st => ?_, fun f st => ?_⟩
      · unfold hx_tC
        rw [if_neg a5, if_neg a6, a7]
      · obtain ⟨b1, b2, b3⟩ := hx_zd3 _ a3
        unfold hx_tR
        rw [if_neg b1, if_neg b2, b3]
  · rw [e]
    exact Or.inl (hx_zd2 lv hl)
theorem hx_zfac {m : Nat} {T : Nat → Int32} (hk : hx_Tk m T) (k : Nat) : (hx_a2 (T k) < 0 ∧ hx_zf (T k) = false) ∨ (¬ hx_a2 (T k) < 0 ∧ hx_zf (T k) = true ∧ k < m ∧ hx_rg 48 57 (T k) = false ∧ ¬ T k = 40 ∧ ∃ a, a ≤ 8 ∧ 1000 + hx_a2 (T k) = nI (1000 + a) ∧ (∀ f st, hx_tC f (1000 + T k) st = some (f a :: st)) ∧ ∀ f st, hx_tR f (nI (1000 + a)) st = some (f a :: st)) := by
  rcases hx_zTs hk k with ⟨z, c, hc, e⟩ | ⟨_, e⟩
  · rw [e]
    rcases hx_zd4 c hc with a | ⟨a1, a2, a3, a4, a5, a6, a7, a8, a9⟩
    · exact Or.inl a
    · refine Or.inr ⟨a1, a2, z, a3, a4, hx_sg (nI c), a5, a6, fun f st => ?_, fun f st => ?_⟩
      · unfold hx_tC
        rw [if_pos a7, if_neg a8, a9]
      · obtain ⟨b1, b2, b3, b4⟩ := hx_zd5 _ a5
        unfold hx_tR
        rw [if_neg b1, if_pos b2, if_neg b3, b4]
  · rw [e]
    exact Or.inl (by decide +kernel)
/-! codes as lists -/
def hx_rL (tk : Int32 → List Int32 → Option (List Int32)) : List Int32 → List Int32 → Option (List Int32)
  | [], st => some st
  | c :: l, st => (tk c st).bind (hx_rL tk l)
theorem hx_rLc (tk : Int32 → List Int32 → Option (List Int32)) (c : Int32) (l st : List Int32) : hx_rL tk (c :: l) st = (tk c st).bind (hx_rL tk l) := rfl
theorem hx_rL1 (tk : Int32 → List Int32 → Option (List Int32)) (c : Int32) (st : List Int32) : hx_rL tk [c] st = tk c st := by
  rw [hx_rLc]
  cases tk c st with
  | none => rfl
  | some s => rfl
theorem hx_rLa (tk : Int32 → List Int32 → Option (List Int32)) : ∀ (A B st : List Int32), hx_rL tk (A ++ B) st = (hx_rL tk A st).bind (hx_rL tk B)
  | [], B, st => rfl
  | c :: A, B, st => by
    rw [List.cons_append, hx_rLc, hx_rLc]
    cases tk c st with
    | none => rfl
    | some s => exact hx_rLa tk A B s
theorem hx_rLn (tk : Int32 → List Int32 → Option (List Int32)) {c : Nat → Int32} : ∀ (L : List Int32) (k : Nat) (st : List Int32), (∀ i v, L[i]? = some v → c (k + i) = v) → hx_rn tk c L.length k st = hx_rL tk L st
  | [], k, st, h => rfl
  | a :: L, k, st, h => by
    have e : hx_rn tk c L.length (k + 1) = hx_rL tk L := funext fun s => hx_rLn tk L (k + 1) s (fun i v e => by
      rw [show k + 1 + i = k + (i + 1) by omega]
      exact h (i + 1) v e)
    have e0 : c k = a := h 0 a rfl
    show (tk (c k) st).bind (hx_rn tk c L.length (k + 1)) = (tk a st).bind (hx_rL tk L)
    rw [e, e0]
def hx_zls (μ : hs_M) (κ w : Nat) (L : List Int32) : Prop := ∀ i v, L[i]? = some v → μ.1 κ 0 (w + i) = v
theorem hx_zla {μ : hs_M} {κ w : Nat} {A B : List Int32} (a : hx_zls μ κ w A) (b : hx_zls μ κ (w + A.length) B) : hx_zls μ κ w (A ++ B) := by
  intro i v e
  rcases Nat.lt_or_ge i A.length with z | z
  · rw [List.getElem?_append_left z] at e
    exact a i v e
  · rw [List.getElem?_append_right z] at e
    have := b _ v e
    rw [show w + A.length + (i - A.length) = w + i by omega] at this
    exact this
theorem hx_zlf {X : Nat → Nat → Nat → Prop} {μ μ' : hs_M} (f : hx_fr X μ μ') {κ w w' : Nat} {L : List Int32} (hw : w + L.length ≤ w') (hX : ∀ i, i < w' → ¬ X κ 0 i) (h : hx_zls μ κ w L) : hx_zls μ' κ w L := by
  intro i v e
  obtain ⟨hi, _⟩ := List.getElem?_eq_some_iff.mp e
  rw [f.1 κ 0 (w + i) (hX _ (by omega)), h i v e]
theorem hx_zl0 (μ : hs_M) (κ w : Nat) : hx_zls μ κ w [] := by
  intro i v e
  cases e
theorem hx_zl1 {μ : hs_M} {κ w : Nat} {c : Int32} (h : μ.1 κ 0 w = c) : hx_zls μ κ w [c] := by
  intro i v e
  rcases i with _ | i
  · exact h.trans (Option.some.inj e)
  · cases e
/-! the two readers' places -/
def hx_zA (w κ b i : Nat) : Prop := b = 0 ∧ ((κ = 10 ∧ (i = 4 ∨ i = 5)) ∨ (κ = 22 ∧ w ≤ i))
def hx_zB (w κ b i : Nat) : Prop := b = 0 ∧ ((κ = 12 ∧ (i = 14 ∨ i = 16 ∨ i = 25)) ∨ (κ = 53 ∧ w ≤ i))
def hx_zc (m : Nat) (T : Nat → Int32) (k w : Nat) (μ : hs_M) : Prop := hx_TC μ m T ∧ μ.1 10 0 5 = nI k ∧ μ.1 10 0 4 = nI w
def hx_zr (m : Nat) (T : Nat → Int32) (k w : Nat) (μ : hs_M) : Prop := hx_TR μ m T ∧ μ.1 12 0 14 = nI k ∧ μ.1 12 0 25 = nI w
def hx_zCt (m : Nat) (T : Nat → Int32) (w : Nat) (μ : hs_M) (k' : Nat) (L : List Int32) (μ' : hs_M) : Prop := hx_fr (hx_zA w) μ μ' ∧ hx_zc m T k' (w + L.length) μ' ∧ hx_zls μ' 22 w L
def hx_zRt (m : Nat) (T : Nat → Int32) (w : Nat) (μ : hs_M) (ok : Bool) (k' : Nat) (L : List Int32) (μ' : hs_M) : Prop := hx_fr (hx_zB w) μ μ' ∧ hx_zr m T k' (w + L.length) μ' ∧ hx_zls μ' 53 w L ∧ (ok = true → μ'.1 12 0 16 = μ.1 12 0 16)
section
variable {m : Nat} {T : Nat → Int32}
theorem hx_zC0 {k w : Nat} {μ : hs_M} (h : hx_zc m T k w μ) : hx_zCt m T w μ k [] μ := ⟨hx_rf _ _, h, hx_zl0 _ _ _⟩
theorem hx_zR0 {k w : Nat} {μ : hs_M} (h : hx_zr m T k w μ) (ok : Bool) : hx_zRt m T w μ ok k [] μ := ⟨hx_rf _ _, h, hx_zl0 _ _ _, fun _ => rfl⟩
theorem hx_zCa {w k1 k2 : Nat} {A B : List Int32} {μ μ1 μ2 : hs_M} (a : hx_zCt m T w μ k1 A μ1) (b : hx_zCt m T (w + A.length) μ1 k2 B μ2) : hx_zCt m T w μ k2 (A ++ B) μ2 := by
  refine ⟨hx_tr a.1 (hx_mo (fun κ b i z => by unfold hx_zA at *; omega) b.1), ?_, hx_zla (hx_zlf b.1 (Nat.le_refl _) (fun i hi => by unfold hx_zA; omega) a.2.2) b.2.2⟩
  rw [List.length_append, ← Nat.add_assoc]
  exact b.2.1
theorem hx_zRa {w k1 k2 : Nat} {A B : List Int32} {μ μ1 μ2 : hs_M} {o1 o2 o : Bool} (a : hx_zRt m T w μ o1 k1 A μ1) (b : hx_zRt m T (w + A.length) μ1 o2 k2 B μ2) (ho : o = true → o1 = true ∧ o2 = true) : hx_zRt m T w μ o k2 (A ++ B) μ2 := by
  refine ⟨hx_tr a.1 (hx_mo (fun κ b i z => by unfold hx_zB at *; omega) b.1), ?_, hx_zla (hx_zlf b.1 (Nat.le_refl _) (fun i hi => by unfold hx_zB; omega) a.2.2.1) b.2.2.1, fun o => (b.2.2.2 (ho o).2).trans (a.2.2.2 (ho o).1)⟩
  rw [List.length_append, ← Nat.add_assoc]
  exact b.2.1
theorem hx_zCm {k w : Nat} {μ : hs_M} (h : hx_zc m T k w μ) (k' : Nat) : hx_zCt m T w μ k' [] (hs_wI μ 10 0 5 (nI k')) := by
  have f : hx_fr (hx_zA w) μ (hs_wI μ 10 0 5 (nI k')) := hx_wr (hx_rf _ _) _ (by unfold hx_zA; omega)
  refine ⟨f, ⟨hx_TCf f (fun i => by unfold hx_zA; omega) h.1, by rw [hx_rd, if_pos ⟨rfl, rfl, rfl⟩], ?_⟩, hx_zl0 _ _ _⟩
  rw [hx_rd, if_neg (by omega), h.2.2]
  rfl
theorem hx_zRm {k w : Nat} {μ : hs_M} (h : hx_zr m T k w μ) (k' : Nat) (ok : Bool) : hx_zRt m T w μ ok k' [] (hs_wI μ 12 0 14 (nI k')) := by
  have f : hx_fr (hx_zB w) μ (hs_wI μ 12 0 14 (nI k')) := hx_wr (hx_rf _ _) _ (by unfold hx_zB; omega)
  refine ⟨f, ⟨hx_TRf f (fun i => by unfold hx_zB; omega) h.1, by rw [hx_rd, if_pos ⟨rfl, rfl, rfl⟩], ?_⟩, hx_zl0 _ _ _, fun _ => by rw [hx_rd, if_neg (by omega)]⟩
  rw [hx_rd, if_neg (by omega), h.2.2]
  rfl
theorem hx_zCe (d : Nat) {k w : Nat} (hw : w < 40) {μ : hs_M} (h : hx_zc m T k w μ) (c : Int32) : ∃ μ', hc_Will_emit (d + 1) c μ = some (none, μ') ∧ hx_zCt m T w μ k [c] μ' := by
  have f : hx_fr (hx_zA w) μ (hs_wI (hs_wI μ 22 0 w c) 10 0 4 (nI (w + 1))) := hx_wr (hx_wr (hx_rf _ _) _ (by unfold hx_zA; omega)) _ (by unfold hx_zA; omega)
  refine ⟨hs_wI (hs_wI μ 22 0 w c) 10 0 4 (nI (w + 1)), ?_, f, ⟨hx_TCf f (fun i => by unfold hx_zA; omega) h.1, ?_, ?_⟩, hx_zl1 ?_⟩
  · rw [hq_Will_emit, h.2.2, if_neg (nI_pos (by omega)), if_pos (show nI w < (40 : Int32) from nI_lt (b := 40) hw (by omega)), if_pos (hx_in (by omega) (by omega)), hq_Will_emit_36, nI_clamp (by omega), nI_1]
  · rw [hx_rd, if_neg (by omega), hx_rd, if_neg (by omega), h.2.1]
  · rw [hx_rd, if_pos ⟨rfl, rfl, rfl⟩]
    rfl
  · rw [hx_rd, if_neg (by omega), hx_rd, if_pos ⟨rfl, rfl, rfl⟩]
theorem hx_zRe (d : Nat) {k w : Nat} (hw : w < 80) {μ : hs_M} (h : hx_zr m T k w μ) (c : Int32) (ok : Bool) : ∃ μ', hc_M_codes (d + 1) c μ = some (none, μ') ∧ hx_zRt m T w μ ok k [c] μ' := by
  have f : hx_fr (hx_zB w) μ (hs_wI (hs_wI μ 53 0 w c) 12 0 25 (nI (w + 1))) := hx_wr (hx_wr (hx_rf _ _) _ (by unfold hx_zB; omega)) _ (by unfold hx_zB; omega)
  refine ⟨hs_wI (hs_wI μ 53 0 w c) 12 0 25 (nI (w + 1)), ?_, f, ⟨hx_TRf f (fun i => by unfold hx_zB; omega) h.1, ?_, ?_⟩, hx_zl1 ?_, fun _ => ?_⟩
  · rw [hq_M_codes, h.2.2, if_pos (hx_in (by omega) (by omega)), nI_clamp (by omega), nI_1]
  · rw [hx_rd, if_neg (by omega), hx_rd, if_neg (by omega), h.2.1]
  · rw [hx_rd, if_pos ⟨rfl, rfl, rfl⟩]
    rfl
  · rw [hx_rd, if_neg (by omega), hx_rd, if_pos ⟨rfl, rfl, rfl⟩]
  · rw [hx_rd, if_neg (by omega), hx_rd, if_neg (by omega)]
/-- the class's numbers -/
theorem hx_znC (d : Nat) (hk : hx_Tk m T) {w : Nat} : ∀ (f j k v : Nat) (μ : hs_M), j + f = 3 → hx_zc m T k w μ → k ≤ m → ∃ μ', he_Will_readNumber_4 (d + 2) (nI v) (nI j) μ = he_Will_readNumber_51 (d + 2) (nI (hx_nm T f k v).1) μ' ∧ hx_zCt m T w μ (hx_nm T f k v).2 [] μ'
  | 0, j, k, v, μ, hj, hz, hkm => by
    rw [hq_Will_readNumber_4, if_neg (show ¬ nI j < (3 : Int32) from nI_nlt (b := 3) (by omega) (by omega))]
    exact ⟨μ, rfl, hx_zC0 hz⟩
  | f + 1, j, k, v, μ, hj, hz, hkm => by
    have h80 := hk.1
    have e1 := hx_dAt d hk hz.1 (i := k) (by omega)
    rw [hq_Will_readNumber_4, if_pos (show nI j < (3 : Int32) from nI_lt (b := 3) (by omega) (by omega)), hz.2.1, e1, hx_bI, hx_nmS]
    by_cases c : hx_rg 48 57 (T k) = true
    · obtain ⟨q, hq, _, e2⟩ := hx_dgd c
      have c' := hx_dlt' hk c
      rw [if_pos c, e2, if_neg (hx_nn1 (by omega)), hz.2.1, e1, hx_bI, e2, hz.2.1, nI_clamp (by omega), nI_1, nI_1, show (10 : Int32) = nI 10 from rfl, pk_mul, nI_add]
      have a1 := hx_zCm hz (k + 1)
      obtain ⟨μ', b1, b2⟩ := hx_znC d hk f (j + 1) (k + 1) (v * 10 + q) (hs_wI μ 10 0 5 (nI (k + 1))) (by omega) a1.2.1 (by omega)
      exact ⟨μ', b1, hx_zCa a1 b2⟩
    · have e3 : hx_dg (T k) = -1 := if_neg c
      rw [if_neg c, e3, if_pos rfl]
      exact ⟨μ, rfl, hx_zC0 hz⟩
end
