/-! ===== the start: all calls' invariant over what the constructors leave ===== -/
def ha_ini (m : Nat → Nat → Nat → Int32) : Bool :=
  decide (m 8 0 9 = 0) && (decide (m 5 0 0 = 1) && (decide (m 5 0 1 = 0) && (decide (m 10 0 3 = 0) && (decide (m 12 0 3 = 0) && (decide (m 12 0 8 = 1) && (decide (m 12 0 9 = 0) && (decide (m 12 0 24 = 0) &&
  ((List.range 8).all (fun i => decide (m 24 0 i = m 45 0 i ∧ m 25 0 i = m 45 0 (8 + i))) &&
  (decide (m 6 0 3 = m 45 0 16) && (decide (m 6 0 1 = m 45 0 17) && (decide (m 45 0 17 = -1) && (decide (m 6 0 2 = 0) && (decide (m 6 0 0 = m 45 0 19) && (decide (m 45 0 19 = 0) && (decide (m 6 0 4 = 0) && (decide (m 6 0 5 = 0) && (decide (m 6 0 6 = m 45 0 20) && (decide (m 45 0 20 = 0) &&
  ((List.range 12).all (fun k => decide (m 26 0 k = m 45 0 (21 + k) ∧ m 27 0 k = m 45 0 (33 + k) ∧ m 28 0 k = m 45 0 (45 + k))) &&
  ((List.range 60).all (fun k => decide (m 29 0 k = m 45 0 (57 + k))) &&
  (decide (m 7 0 1 = 0) && (decide (m 12 0 13 = 0) && (decide (m 4 0 1 = 0) && (decide (m 12 0 1 = 0) && (decide (m 3 0 4 = 0) && (decide (m 3 0 3 = 0) && (decide (m 12 0 28 = 0) &&
  ((List.range 3).all (fun i => decide (m 66 0 i = 0 ∧ m 32 0 i = -1)) &&
  (decide (m 2 0 2 = 0) && (decide (m 12 0 34 = 0) && (decide (m 2 1 2 = 0) && decide (m 12 0 37 = 0))))))))))))))))))))))))))))))))
/-- what the prologue needs of the two heaps -/
def ha_pro (h1 h2 : ha_H) (P : List (Nat × Nat × Nat)) : Bool :=
  ha_good (h2 ++ [.inr (1, 1, [])]) P && (ha_more [ha_new 11] h1 && (ha_more (h1 ++ [ha_new 12]) h2 && (Nat.blt h1.length 499 && (Nat.blt h2.length 499 && (P.all (fun q => Nat.blt q.1 70) && (ha_ini (ha_mu (h2 ++ [.inr (1, 1, [])]) P (fun _ => 0) 0).1 && (decide (ha_look 11 0 P = some 0) && (decide (ha_look 12 0 P = some h1.length) && decide (ha_look 69 0 P = some h2.length)))))))))
def ha_pro_ok : Bool := match ha_call 4 11 [.inr (some 0)] [ha_new 11] with
  | some h1 => (match ha_call 4 12 [.inr (some h1.length)] (h1 ++ [ha_new 12]) with
    | some h2 => ha_pro h1 h2 (ha_map (h2 ++ [.inr (1, 1, [])]) h1.length h2.length)
    | none => false)
  | none => false
set_option maxRecDepth 100000 in
theorem ha_pro_good : ha_pro_ok = true := by decide +kernel
theorem ha_pro_ex : ∃ h1 h2 P, ha_call 4 11 [.inr (some 0)] [ha_new 11] = some h1 ∧ ha_call 4 12 [.inr (some h1.length)] (h1 ++ [ha_new 12]) = some h2 ∧ ha_good (h2 ++ [.inr (1, 1, [])]) P = true ∧ ha_more [ha_new 11] h1 = true ∧ ha_more (h1 ++ [ha_new 12]) h2 = true ∧ h1.length < 499 ∧ h2.length < 499 ∧ P.all (fun q => Nat.blt q.1 70) = true ∧ ha_ini (ha_mu (h2 ++ [.inr (1, 1, [])]) P (fun _ => 0) 0).1 = true ∧ ha_look 11 0 P = some 0 ∧ ha_look 12 0 P = some h1.length ∧ ha_look 69 0 P = some h2.length := by
  have h := ha_pro_good
  unfold ha_pro_ok at h
  split at h
  · rename_i h1 e1
    split at h
    · rename_i h2 e2
      unfold ha_pro at h
      simp only [Bool.and_eq_true, decide_eq_true_eq] at h
      obtain ⟨a1, a2, a3, a4, a5, a6, a7, a8, a9, a10⟩ := h
      exact ⟨h1, h2, _, e1, e2, a1, a2, a3, Nat.le_of_ble_eq_true a4, Nat.le_of_ble_eq_true a5, a6, a7, a8, a9, a10⟩
    · cases h
  · cases h
theorem ha_mu_ne {h : ha_H} {P : List (Nat × Nat × Nat)} {X : Nat → Int32} {N : Nat} {κ : Nat} (hκ : κ ≠ 70) (j i : Nat) : (ha_mu h P X N).1 κ j i = (ha_mu h P (fun _ => 0) 0).1 κ j i := by
  show (if κ = 70 then _ else _) = (if κ = 70 then _ else _)
  rw [if_neg hκ, if_neg hκ]
def hx_E0 : hx_Env := (0, fun _ => 0, fun _ => 0, fun _ => 0, fun _ _ => 0, 1, 0, fun _ => 1)
theorem hx_I0s {μ : hs_M} {m : Nat → Nat → Nat → Int32} (hm : ∀ κ j i, κ ≠ 70 → μ.1 κ j i = m κ j i) (h : ha_ini m = true) : hx_I 0 hx_E0 (fun i => m 45 0 i) μ := by
  unfold ha_ini at h
  simp only [Bool.and_eq_true, decide_eq_true_eq, List.all_eq_true, List.mem_range] at h
  obtain ⟨e1, e2, e3, e4, e5, e6, e7, e8, e9, e10, e11, e12, e13, e14, e15, e16, e17, e18, e19, e20, e21, e22, e23, e24, e25, e26, e27, e28, e29, e30, e31, e32, e33⟩ := h
  have t20 : hx_hold (fun i => m 45 0 i) = 0 := by
    show hx_hc (fun i => m 45 0 i) (m 45 0 20).toNatClampNeg = 0
    rw [e19]
    rfl
  have t20' : hx_holds (fun i => m 45 0 i) = 0 := by
    show hx_hb (fun i => m 45 0 i) (m 45 0 20).toNatClampNeg = 0
    rw [e19]
    rfl
  have hok : hx_ok hx_E0 := ⟨by show 0 ≤ 8; omega, fun i hi => absurd hi (by show ¬ i < 0; omega), by show 1 ≤ 1; omega, by show 1 ≤ 9; omega, fun i hi => absurd hi (by show ¬ i < 0; omega), by show -9 ≤ (0 : Int32).toInt ∧ (0 : Int32).toInt ≤ 9; decide⟩
  refine ⟨⟨hok, ?_, fun i hi => absurd hi (by show ¬ i < 0; omega), fun i hi => absurd hi (by show ¬ i < 0; omega), fun i hi => absurd hi (by show ¬ i < 0; omega), fun i k hi => absurd hi (by show ¬ i < 0; omega), ?_, ?_, 0, by omega, ?_, Or.inl ⟨rfl, fun _ => rfl⟩⟩, ⟨hok, ?_, fun i hi => absurd hi (by show ¬ i < 0; omega), fun i hi => absurd hi (by show ¬ i < 0; omega), fun i hi => absurd hi (by show ¬ i < 0; omega), fun i k hi => absurd hi (by show ¬ i < 0; omega), ?_, ?_, 0, by omega, ?_, fun k hk => absurd hk (by omega), Or.inl ⟨rfl, fun _ => rfl⟩⟩, ⟨⟨fun i hi => ?_, fun i hi => ?_, ?_, ?_, ?_, ?_, ?_, ?_⟩, ?_, fun k hk => ?_, fun k hk => ?_, fun k hk => ?_, fun k hk => ?_⟩, fun i _ => ?_, ⟨Or.inl e12, ⟨0, by omega, e15⟩, ⟨0, by omega, e19, fun k hk => absurd hk (by omega)⟩, fun p hp => absurd hp (by show ¬ p < 0; omega)⟩, hx_iT0 ?_ ?_, ⟨[], ⟨by show 0 ≤ 16; omega, ?_, fun i v e => by cases e⟩, ⟨by show 0 ≤ 16; omega, ?_, fun i v e => by cases e⟩⟩, ⟨0, 0, fun _ _ => 0, by omega, by omega, ?_, ?_, ?_, fun k hk => absurd hk (by omega)⟩, fun i hi => Or.inl ⟨?_, ?_⟩, ⟨0, by omega, ?_, ?_, fun k hk => absurd hk (by omega)⟩, ⟨0, by omega, ?_, ?_, fun k hk => absurd hk (by omega)⟩⟩
  · rw [hm _ _ _ (by decide), e1]; rfl
  · rw [hm _ _ _ (by decide), e2]; rfl
  · rw [hm _ _ _ (by decide), e3]; rfl
  · rw [hm _ _ _ (by decide), e4]; rfl
  · rw [hm _ _ _ (by decide), e5]; rfl
  · rw [hm _ _ _ (by decide), e6]; rfl
  · rw [hm _ _ _ (by decide), e7]; rfl
  · rw [hm _ _ _ (by decide), e8]; rfl
  · rw [hm _ _ _ (by decide), (e9 i hi).1]
  · rw [hm _ _ _ (by decide), (e9 i hi).2]
  · rw [hm _ _ _ (by decide), e10]
  · rw [hm _ _ _ (by decide), e11]
  · rw [hm _ _ _ (by decide), e13, if_pos (show m 45 0 17 < 0 by rw [e12]; decide)]
  · rw [hm _ _ _ (by decide), e14]
  · rw [hm _ _ _ (by decide), e16, t20']
  · rw [hm _ _ _ (by decide), e17, t20]; rfl
  · rw [hm _ _ _ (by decide), e18]
  · rw [hm _ _ _ (by decide), (e20 k hk).1]
  · rw [hm _ _ _ (by decide), (e20 k hk).2.1]
  · rw [hm _ _ _ (by decide), (e20 k hk).2.2]
  · rw [hm _ _ _ (by decide), e21 k hk]
  · rw [Nat.zero_add, hm _ _ _ (by decide)]
  · rw [hm _ _ _ (by decide), e22]
  · rw [hm _ _ _ (by decide), e23]
  · rw [hm _ _ _ (by decide), e24]; rfl
  · rw [hm _ _ _ (by decide), e25]; rfl
  · rw [hm _ _ _ (by decide), e26]; rfl
  · rw [hm _ _ _ (by decide), e27]; rfl
  · rw [hm _ _ _ (by decide), e28]; rfl
  · rw [hm _ _ _ (by decide), (e29 i hi).1]
  · rw [hm _ _ _ (by decide), (e29 i hi).2]
  · rw [hm _ _ _ (by decide), e30]; rfl
  · rw [hm _ _ _ (by decide), e31]; rfl
  · rw [hm _ _ _ (by decide), e32]; rfl
  · rw [hm _ _ _ (by decide), e33]; rfl
