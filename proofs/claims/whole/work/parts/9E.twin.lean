/-! ===== E: twin, the state ===== -/
def hx_wel (t : hx_St) (P : Nat) (w : Int32) : hx_St := hx_pw (hx_pw (hx_pw t P w) (8 + P) 0) 16 (t 16 ||| ((1 : Int32) <<< (nI P &&& 31)))
theorem hx_welO (t : hx_St) (P : Nat) (w : Int32) {i : Nat} (h1 : i ≠ P) (h2 : i ≠ 8 + P) (h3 : i ≠ 16) : hx_wel t P w i = t i := by
  unfold hx_wel
  rw [hx_pwO _ _ h3, hx_pwO _ _ h2, hx_pwO _ _ h1]
theorem hx_wel0 (t : hx_St) {P : Nat} (hP : P < 8) (w : Int32) : hx_wel t P w P = w := by
  unfold hx_wel
  rw [hx_pwO _ _ (by omega), hx_pwO _ _ (by omega)]
  exact if_pos rfl
theorem hx_wel8 (t : hx_St) {P : Nat} (hP : P < 8) (w : Int32) : hx_wel t P w (8 + P) = 0 := by
  unfold hx_wel
  rw [hx_pwO _ _ (by omega)]
  exact if_pos rfl
theorem hx_wel16 (t : hx_St) (P : Nat) (w : Int32) : hx_wel t P w 16 = t 16 ||| ((1 : Int32) <<< (nI P &&& 31)) := by
  unfold hx_wel
  exact if_pos rfl
theorem hx_weltw {P W : Nat} (hP : P < 8) {t : hx_St} (ht : hx_tw P W t) {w : Nat} (hw1 : 1 ≤ w) (hw9 : w ≤ 999) : hx_tw (P + 1) W (hx_wel t P (nI w)) := by
  obtain ⟨h1, h2, ⟨L, hL, e20, hl⟩, h4⟩ := ht
  refine ⟨?_, ?_, ⟨L, hL, ?_, ?_⟩, ?_⟩
  · rw [hx_welO _ _ _ (by omega) (by omega) (by omega)]
    rcases h1 with h1 | ⟨p, hp, e⟩
    · exact Or.inl h1
    · exact Or.inr ⟨p, by omega, e⟩
  · rw [hx_welO _ _ _ (by omega) (by omega) (by omega)]
    exact h2
  · rw [hx_welO _ _ _ (by omega) (by omega) (by omega)]
    exact e20
  · intro k hk
    rw [hx_welO _ _ _ (by omega) (by omega) (by omega), hx_welO _ _ _ (by omega) (by omega) (by omega), hx_welO _ _ _ (by omega) (by omega) (by omega)]
    exact hl k hk
  · intro q hq
    by_cases c : q = P
    · exact ⟨w, hw1, hw9, by rw [c, hx_wel0 t hP]⟩
    · rw [hx_welO _ _ _ (by omega) (by omega) (by omega)]
      exact h4 q (by omega)
theorem hx_welh (t : hx_St) {P : Nat} (hP : P < 8) (w : Int32) : hx_hold (hx_wel t P w) = hx_hold t ∧ hx_holds (hx_wel t P w) = hx_holds t := by
  unfold hx_hold hx_holds
  rw [hx_welO _ _ _ (by omega) (by omega) (by omega)]
  exact ⟨hx_hcc _ (fun k _ => hx_welO _ _ _ (by omega) (by omega) (by omega)), hx_hbc _ (fun k _ => hx_welO _ _ _ (by omega) (by omega) (by omega))⟩
theorem hx_welC (d : Nat) {μ : hs_M} {t : hx_St} (hs : hx_SF μ 0 t) {P : Nat} (hP : P < 8) (w : Int32) : ∃ μ', hc_State_welcome (d + 1) 0 (nI P) w μ = some (none, μ') ∧ hx_fr (fun κ b i => b = 0 ∧ (κ = 24 ∨ κ = 25 ∨ (κ = 6 ∧ i = 3))) μ μ' ∧ hx_SF μ' 0 (hx_wel t P w) := by
  obtain ⟨⟨h1, h2, h3, h4, h5, h6, h7, h8⟩, k6, k26, k27, k28, k29⟩ := hs
  have fh := hx_welh t hP w
  have f : hx_fr (fun κ b i => b = 0 ∧ ((κ = 24 ∧ i = P) ∨ (κ = 25 ∧ i = P) ∨ (κ = 6 ∧ i = 3))) μ (hs_wI (hs_wI (hs_wI μ 24 0 P w) 25 0 P 0) 6 0 3 (t 16 ||| ((1 : Int32) <<< (nI P &&& 31)))) := hx_wr (hx_wr (hx_wr (hx_rf _ _) _ (by omega)) _ (by omega)) _ (by omega)
  have o : ∀ i, i ≠ P → i ≠ 8 + P → i ≠ 16 → hx_wel t P w i = t i := fun i a b c => hx_welO t P w a b c
  refine ⟨_, ?_, hx_mo (fun κ b i z => by omega) f, ⟨?_, ?_, ?_, ?_, ?_, ?_, ?_, ?_⟩, ?_, ?_, ?_, ?_, ?_⟩
  · rw [hq_State_welcome, if_neg (nI_pos (by omega)), if_pos (show nI P < (8 : Int32) from nI_lt (b := 8) (by omega) (by omega)), if_pos (hx_in (by omega) (by omega)), if_pos (hx_in (by omega) (by omega)), nI_clamp (by omega), h3, hq_State_welcome_36]
  · intro i hi
    by_cases c : i = P
    · rw [c, hx_wel0 t hP, hx_rd, if_neg (by omega), hx_rd, if_neg (by omega), hx_rd, if_pos ⟨rfl, rfl, rfl⟩]
    · rw [f.1 24 0 i (by omega), o i (by omega) (by omega) (by omega), h1 i hi]
  · intro i hi
    by_cases c : i = P
    · rw [c, hx_wel8 t hP, hx_rd, if_neg (by omega), hx_rd, if_pos ⟨rfl, rfl, rfl⟩]
    · rw [f.1 25 0 i (by omega), o _ (by omega) (by omega) (by omega), h2 i hi]
  · rw [hx_wel16, hx_rd, if_pos ⟨rfl, rfl, rfl⟩]
  · rw [f.1 6 0 1 (by omega), o _ (by omega) (by omega) (by omega), h4]
  · rw [f.1 6 0 2 (by omega), o _ (by omega) (by omega) (by omega), o _ (by omega) (by omega) (by omega), h5]
  · rw [f.1 6 0 0 (by omega), o _ (by omega) (by omega) (by omega), h6]
  · rw [f.1 6 0 4 (by omega), fh.2, h7]
  · rw [f.1 6 0 5 (by omega), fh.1, h8]
  · rw [f.1 6 0 6 (by omega), o _ (by omega) (by omega) (by omega), k6]
  · intro i hi
    rw [f.1 26 0 i (by omega), o _ (by omega) (by omega) (by omega), k26 i hi]
  · intro i hi
    rw [f.1 27 0 i (by omega), o _ (by omega) (by omega) (by omega), k27 i hi]
  · intro i hi
    rw [f.1 28 0 i (by omega), o _ (by omega) (by omega) (by omega), k28 i hi]
  · intro i hi
    rw [f.1 29 0 i (by omega), o _ (by omega) (by omega) (by omega), k29 i hi]
