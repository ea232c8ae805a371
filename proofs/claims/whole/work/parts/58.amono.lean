/-! ===== the allocating machine's heap only grows ===== -/
def ha_le (h h' : ha_H) : Prop := h.length ≤ h'.length ∧ ha_cost h ≤ ha_cost h'
theorem ha_le.rf (h : ha_H) : ha_le h h := ⟨Nat.le_refl _, Nat.le_refl _⟩
theorem ha_le.push (h : ha_H) (x : ha_E) : ha_le h (h ++ [x]) := ⟨by rw [List.length_append]; omega, by rw [ha_cost_app]; omega⟩
theorem ha_le.set {h : ha_H} {i : Nat} {x x' : ha_E} (hx : hs_nth h i = some x) (e : ha_co x' = ha_co x) : ha_le h (h.set i x') := ⟨by rw [List.length_set]; exact Nat.le_refl _, by rw [ha_cost_set hx e]; exact Nat.le_refl _⟩
theorem ha_le.more {h h' : ha_H} (hm : ha_more h h' = true) : ha_le h h' := ⟨(ha_more_spec hm).1, (ha_more_spec hm).2.2⟩
theorem ha_le.trans {a b c : ha_H} (h : ha_le a b) (h' : ha_le b c) : ha_le a c := ⟨Nat.le_trans h.1 h'.1, Nat.le_trans h.2 h'.2⟩
theorem ha_gI_spec {ρ : Type} {o : Option (Option ha_V)} {k : Int32 → Option ρ} {r : ρ} (h : ha_gI o k = some r) : ∃ x, o = some (some (.inl x)) ∧ k x = some r := by
  unfold ha_gI at h
  split at h
  · exact ⟨_, rfl, h⟩
  · cases h
theorem ha_gR_spec {ρ : Type} {o : Option (Option ha_V)} {k : Nat → Option ρ} {r : ρ} (h : ha_gR o k = some r) : ∃ x, o = some (some (.inr (some x))) ∧ k x = some r := by
  unfold ha_gR at h
  split at h
  · exact ⟨_, rfl, h⟩
  · cases h
theorem ha_if_spec {ρ : Type} {b : Bool} {o : Option ρ} {r : ρ} (h : hs_if b o = some r) : b = true ∧ o = some r := by
  cases b
  · cases h
  · exact ⟨rfl, h⟩
