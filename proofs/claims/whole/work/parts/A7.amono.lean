/-! ===== the allocating machine's heap only grows ===== -/
def ha_le (h h' : ha_H) : Prop := h.length ≤ h'.length ∧ ha_cost h ≤ ha_cost h'
theorem ha_le.rf (h : ha_H) : ha_le h h := ⟨Nat.le_refl _, Nat.le_refl _⟩
theorem ha_le.push (h : ha_H) (x : ha_E) : ha_le h (h ++ [x]) := ⟨by rw [List.length_append]; omega, by rw [ha_cost_app]; omega⟩
theorem ha_le.set {h : ha_H} {i : Nat} {x x' : ha_E} (hx : hs_nth h i = some x) (e : ha_co x' = ha_co x) : ha_le h (h.set i x') := ⟨by rw [List.length_set]; exact Nat.le_refl _, by rw [ha_cost_set hx e]; exact Nat.le_refl _⟩
theorem ha_le.more {h h' : ha_H} (hm : ha_more h h' = true) : ha_le h h' := ⟨(ha_more_spec hm).1, (ha_more_spec hm).2.2⟩
theorem ha_le.trans {a b c : ha_H} (h : ha_le a b) (h' : ha_le b c) : ha_le a c := ⟨Nat.le_trans h.1 h'.1, Nat.le_trans h.2 h'.2⟩
theorem ha_gI_spec {ρ : Type} {o : Option (Option ha_V)} {k : Int32 → Option ρ} {r : ρ} (h : ha_gI o k = some r) : ∃ x, o = some (some (.inl x)) ∧ k x = some r := by
  unfold ha_gI at h
  split at h
  · exact ⟨_, rfl, h⟩
  · cases h
theorem ha_gR_spec {ρ : Type} {o : Option (Option ha_V)} {k : Nat → Option ρ} {r : ρ} (h : ha_gR o k = some r) : ∃ x, o = some (some (.inr (some x))) ∧ k x = some r := by
  unfold ha_gR at h
  split at h
  · exact ⟨_, rfl, h⟩
  · cases h
theorem ha_if_spec {ρ : Type} {b : Bool} {o : Option ρ} {r : ρ} (h : hs_if b o = some r) : b = true ∧ o = some r := by
  cases b
  · cases h
  · exact ⟨rfl, h⟩
theorem ha_step_le {ρ : Type} {call : ha_C} {k done : ha_T ρ} {r : hs_R} {pc : Nat} {ls : ha_L} {st : List ha_V} {h : ha_H} {res : ρ} (ex : ha_step call k done r pc ls st h = some res) : ∃ pc' L' st' h', (k pc' L' st' h' = some res ∨ done pc' L' st' h' = some res) ∧ ha_le h h' := by
  unfold ha_step at ex
  split at ex
  · obtain ⟨_, -, ex⟩ := ha_gI_spec ex
    exact ⟨_, _, _, _, Or.inl ex, ha_le.rf _⟩
  · obtain ⟨_, -, ex⟩ := ha_gI_spec ex
    exact ⟨_, _, _, _, Or.inl ex, ha_le.rf _⟩
  · obtain ⟨_, -, ex⟩ := ha_gR_spec ex
    exact ⟨_, _, _, _, Or.inl ex, ha_le.rf _⟩
  · obtain ⟨_, -, ex⟩ := ha_gR_spec ex
    exact ⟨_, _, _, _, Or.inl ex, ha_le.rf _⟩
  · split at ex
    · obtain ⟨_, ex, -⟩ := ha_set_spec _ _ _ _ _ ex
      exact ⟨_, _, _, _, Or.inl ex, ha_le.rf _⟩
    · cases ex
  · split at ex
    · obtain ⟨_, ex, -⟩ := ha_set_spec _ _ _ _ _ ex
      exact ⟨_, _, _, _, Or.inl ex, ha_le.rf _⟩
    · cases ex
  · obtain ⟨_, -, ex⟩ := ha_gI_spec ex
    obtain ⟨_, ex, -⟩ := ha_set_spec _ _ _ _ _ ex
    exact ⟨_, _, _, _, Or.inl ex, ha_le.rf _⟩
  · exact ⟨_, _, _, _, Or.inl ex, ha_le.rf _⟩
  · exact ⟨_, _, _, _, Or.inl ex, ha_le.rf _⟩
  · exact ⟨_, _, _, _, Or.inl ex, ha_le.rf _⟩
  · split at ex
    · exact ⟨_, _, _, _, Or.inl ex, ha_le.rf _⟩
    · cases ex
  · exact ⟨_, _, _, _, Or.inl ex, ha_le.rf _⟩
  · split at ex
    · split at ex
      · split at ex
        · exact ⟨_, _, _, _, Or.inl ex, ha_le.rf _⟩
        · exact ⟨_, _, _, _, Or.inl ex, ha_le.rf _⟩
      · split at ex
        · exact ⟨_, _, _, _, Or.inl ex, ha_le.rf _⟩
        · exact ⟨_, _, _, _, Or.inl ex, ha_le.rf _⟩
      · cases ex
    · cases ex
  · split at ex
    · exact ⟨_, _, _, _, Or.inl (ha_if_spec ex).2, ha_le.push _ _⟩
    · cases ex
  · split at ex
    · exact ⟨_, _, _, _, Or.inl (ha_if_spec ex).2, ha_le.push _ _⟩
    · cases ex
  · split at ex
    · exact ⟨_, _, _, _, Or.inl (ha_if_spec ex).2, ha_le.push _ _⟩
    · cases ex
  · split at ex
    · split at ex
      · rename_i hx
        exact ⟨_, _, _, _, Or.inl (ha_if_spec ex).2, ha_le.set hx rfl⟩
      · cases ex
    · cases ex
  · split at ex
    · split at ex
      · replace ex := (ha_if_spec ex).2
        split at ex
        · exact ⟨_, _, _, _, Or.inl ex, ha_le.rf _⟩
        · cases ex
      · cases ex
    · cases ex
  · split at ex
    · split at ex
      · rename_i hx
        exact ⟨_, _, _, _, Or.inl (ha_if_spec ex).2, ha_le.set hx rfl⟩
      · cases ex
    · cases ex
  · split at ex
    · split at ex
      · rename_i hx hx2
        exact ⟨_, _, _, _, Or.inl (ha_if_spec ex).2, ha_le.set hx rfl⟩
      · cases ex
    · cases ex
  · split at ex
    · split at ex
      · replace ex := (ha_if_spec ex).2
        exact ⟨_, _, _, _, Or.inl ex, ha_le.rf _⟩
      · cases ex
    · obtain ⟨_, _, -, -, ex⟩ := ha_pop_spec _ _ _ _ ex
      replace ex := (ha_if_spec ex).2
      split at ex
      · obtain ⟨e1, ex⟩ := ha_if_spec ex
        exact ⟨_, _, _, _, Or.inl ex, ha_le.more e1⟩
      · cases ex
    · cases ex
  · split at ex
    · replace ex := (ha_if_spec ex).2
      exact ⟨_, _, _, _, Or.inl ex, ha_le.rf _⟩
    · cases ex
  · exact ⟨_, _, _, _, Or.inr ex, ha_le.rf _⟩
  · cases ex
theorem ha_run_le {code : hs_K} {call : ha_C} {hF : ha_H} : ∀ (n pc : Nat) (ls : ha_L) (st : List ha_V) (h : ha_H), ha_run code call ha_fin n pc ls st h = some hF → ha_le h hF
  | 0, _, _, _, _, e => by cases e
  | n + 1, pc, ls, st, h, e => by
    have e : ha_one code call (ha_run code call ha_fin n) ha_fin pc ls st h = some hF := e
    unfold ha_one at e
    split at e
    · obtain ⟨pc', L', st', h', hh | hh, hl⟩ := ha_step_le e
      · exact hl.trans (ha_run_le n pc' L' st' h' hh)
      · unfold ha_fin at hh
        split at hh
        · cases hh
          exact hl
        · cases hh
    · cases e
