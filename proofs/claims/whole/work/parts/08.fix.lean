/-! ===== the fuel-free run is a fixed point of the step; as far as the next of some places ===== -/
abbrev hs_Cf : Type := Nat × (hs_L × (List hs_V × hs_M))
def hs_nx (call : hs_C) (r : hs_R) (pc : Nat) (ls : hs_L) (st : List hs_V) (μ : hs_M) : Option (hs_Cf ⊕ hs_Cf) := hs_step call (fun pc ls st μ => some (.inl (pc, ls, st, μ))) (fun pc ls st μ => some (.inr (pc, ls, st, μ))) r pc ls st μ
def hs_gg {ρ : Type} (k done : hs_T ρ) : hs_Cf ⊕ hs_Cf → Option ρ
  | .inl c => k c.1 c.2.1 c.2.2.1 c.2.2.2
  | .inr c => done c.1 c.2.1 c.2.2.1 c.2.2.2
theorem hs_step_nx {ρ : Type} (call : hs_C) (k done : hs_T ρ) (r : hs_R) (pc : Nat) (ls : hs_L) (st : List hs_V) (μ : hs_M) : hs_step call k done r pc ls st μ = (hs_nx call r pc ls st μ).bind (hs_gg k done) := by
  unfold hs_nx
  rw [hs_b_step]
  rfl
theorem hs_run_s {ρ : Type} (code : hs_K) (call : hs_C) (done : hs_T ρ) (n : Nat) : hs_run code call done (n + 1) = hs_one code call (hs_run code call done n) done := rfl
theorem hs_one_mono {ρ : Type} {code : hs_K} {call : hs_C} {k k' done : hs_T ρ} (h : ∀ pc ls st μ r, k pc ls st μ = some r → k' pc ls st μ = some r) {pc : Nat} {ls : hs_L} {st : List hs_V} {μ : hs_M} {r : ρ} (e : hs_one code call k done pc ls st μ = some r) : hs_one code call k' done pc ls st μ = some r := by
  unfold hs_one at e ⊢
  cases ha : hs_at code pc with
  | none => rw [ha] at e; exact e
  | some row =>
    rw [ha] at e
    dsimp only at e ⊢
    rw [hs_step_nx] at e ⊢
    cases hx : hs_nx call row pc (hs_mask row.2.2.2 ls) st μ with
    | none => rw [hx] at e; exact e
    | some c =>
      rw [hx] at e
      rcases c with c | c
      · exact h _ _ _ _ _ e
      · exact e
theorem hs_run_mono {ρ : Type} {code : hs_K} {call : hs_C} {done : hs_T ρ} : ∀ (n : Nat) {pc : Nat} {ls : hs_L} {st : List hs_V} {μ : hs_M} {r : ρ}, hs_run code call done n pc ls st μ = some r → hs_run code call done (n + 1) pc ls st μ = some r
  | 0, _, _, _, _, _, h => by cases h
  | n + 1, pc, ls, st, μ, r, h => by
    rw [hs_run_s] at h ⊢
    exact hs_one_mono (fun pc ls st μ r => hs_run_mono n) h
theorem hs_lim_mono {ρ : Type} {g : Nat → Option ρ} (hm : ∀ n r, g n = some r → g (n + 1) = some r) {n : Nat} {r : ρ} (h : g n = some r) : ∀ k, g (n + k) = some r
  | 0 => h
  | k + 1 => hm _ _ (hs_lim_mono hm h k)
theorem hs_lim_some {ρ : Type} {g : Nat → Option ρ} (hm : ∀ n r, g n = some r → g (n + 1) = some r) {n : Nat} {r : ρ} (h : g n = some r) : hs_lim g = some r := by
  have hx : ∃ n, (g n).isSome = true := ⟨n, by rw [h]; rfl⟩
  unfold hs_lim
  rw [dif_pos hx]
  obtain ⟨v, hv⟩ := Option.isSome_iff_exists.mp hx.choose_spec
  have h1 := hs_lim_mono hm hv n
  have h2 := hs_lim_mono hm h hx.choose
  rw [Nat.add_comm] at h1
  rw [hv]
  exact h1.symm.trans h2
theorem hs_lim_ex {ρ : Type} {g : Nat → Option ρ} {r : ρ} (h : hs_lim g = some r) : ∃ n, g n = some r := by
  unfold hs_lim at h
  by_cases hx : ∃ n, (g n).isSome = true
  · rw [dif_pos hx] at h
    exact ⟨_, h⟩
  · rw [dif_neg hx] at h
    cases h
theorem hs_lim_eq {ρ : Type} {g h : Nat → Option ρ} (hg : ∀ n r, g n = some r → g (n + 1) = some r) (hh : ∀ n r, h n = some r → h (n + 1) = some r) (a : ∀ n r, g n = some r → ∃ m, h m = some r) (b : ∀ n r, h n = some r → ∃ m, g m = some r) : hs_lim g = hs_lim h := by
  cases e : hs_lim g with
  | some r =>
    obtain ⟨n, hn⟩ := hs_lim_ex e
    obtain ⟨m, hm⟩ := a n r hn
    exact (hs_lim_some hh hm).symm
  | none =>
    cases e2 : hs_lim h with
    | none => rfl
    | some r =>
      obtain ⟨n, hn⟩ := hs_lim_ex e2
      obtain ⟨m, hm⟩ := b n r hn
      rw [hs_lim_some hg hm] at e
      cases e
theorem hs_evW_eq {ρ : Type} (code : hs_K) (call : hs_C) (done : hs_T ρ) (pc : Nat) (ls : hs_L) (st : List hs_V) (μ : hs_M) : hs_evW code call done pc ls st μ = hs_one code call (hs_evW code call done) done pc ls st μ := by
  have hm : ∀ (pc : Nat) (ls : hs_L) (st : List hs_V) (μ : hs_M) (n : Nat) (r : ρ), hs_run code call done n pc ls st μ = some r → hs_run code call done (n + 1) pc ls st μ = some r := fun _ _ _ _ n _ h => hs_run_mono n h
  cases e : hs_evW code call done pc ls st μ with
  | some r =>
    obtain ⟨n, hn⟩ := hs_lim_ex e
    have h1 := hs_run_mono n hn
    rw [hs_run_s] at h1
    exact (hs_one_mono (fun pc ls st μ r h => hs_lim_some (hm pc ls st μ) h) h1).symm
  | none =>
    have all : ∀ n, hs_run code call done n pc ls st μ = none := by
      intro n
      cases h : hs_run code call done n pc ls st μ with
      | none => rfl
      | some r =>
        have := hs_lim_some (hm pc ls st μ) h
        unfold hs_evW at e
        rw [this] at e
        cases e
    unfold hs_one
    cases ha : hs_at code pc with
    | none => rfl
    | some row =>
      dsimp only
      rw [hs_step_nx]
      have all2 : ∀ n, (hs_nx call row pc (hs_mask row.2.2.2 ls) st μ).bind (hs_gg (hs_run code call done n) done) = none := by
        intro n
        have := all (n + 1)
        rw [hs_run_s] at this
        unfold hs_one at this
        rw [ha] at this
        dsimp only at this
        rw [hs_step_nx] at this
        exact this
      cases hx : hs_nx call row pc (hs_mask row.2.2.2 ls) st μ with
      | none => rfl
      | some c =>
        rw [hx] at all2
        rcases c with c | c
        · show none = hs_evW code call done c.1 c.2.1 c.2.2.1 c.2.2.2
          cases e3 : hs_evW code call done c.1 c.2.1 c.2.2.1 c.2.2.2 with
          | none => rfl
          | some r =>
            obtain ⟨n, hn⟩ := hs_lim_ex e3
            have := all2 n
            rw [show (some (Sum.inl c) : Option (hs_Cf ⊕ hs_Cf)).bind (hs_gg (hs_run code call done n) done) = hs_run code call done n c.1 c.2.1 c.2.2.1 c.2.2.2 from rfl, hn] at this
            cases this
        · exact (all2 0).symm
theorem hs_mask_mask : ∀ (m : List Bool) (l : hs_L), hs_mask m (hs_mask m l) = hs_mask m l
  | [], _ => rfl
  | _ :: _, [] => by cases ‹Bool› <;> rfl
  | true :: m, a :: l => by simp only [hs_mask, hs_mask_mask m l]
  | false :: m, a :: l => by simp only [hs_mask, hs_mask_mask m l]
theorem hs_evW_clean {ρ : Type} (code : hs_K) (call : hs_C) (done : hs_T ρ) (pc : Nat) (ls : hs_L) (st : List hs_V) (μ : hs_M) : hs_evW code call done pc (hs_clean code pc ls) st μ = hs_evW code call done pc ls st μ := by
  rw [hs_evW_eq, hs_evW_eq (ls := ls)]
  unfold hs_one hs_clean
  cases hs_at code pc with
  | none => rfl
  | some r => dsimp only; rw [hs_mask_mask]
theorem hs_evW_go {ρ : Type} (code : hs_K) (call : hs_C) (done : hs_T ρ) (stops : List Nat) : ∀ (n : Nat), hs_go code call stops (hs_evW code call done) done n = hs_evW code call done
  | 0 => rfl
  | n + 1 => by
    have ih := hs_evW_go code call done stops n
    funext pc ls st μ
    show hs_one code call (fun pc ls st μ => match hs_mem stops pc with
      | true => hs_evW code call done pc (hs_clean code pc ls) st μ
      | false => hs_go code call stops (hs_evW code call done) done n pc ls st μ) done pc ls st μ = _
    rw [hs_evW_eq, ih]
    congr 1
    funext pc ls st μ
    cases hs_mem stops pc with
    | true => exact hs_evW_clean code call done pc ls st μ
    | false => rfl
theorem hs_ev_go {d y : Nat} {code : hs_K} {ml rk : Nat} (hp : hs_prog y = (code, ml, rk)) (stops : List Nat) (n pc : Nat) (ls : hs_L) (st : List hs_V) (μ : hs_M) : hs_ev d y pc ls st μ = hs_go code (hs_call d) stops (hs_ev d y) (hs_fin rk) n pc ls st μ := by
  have h1 : hs_ev d y = hs_evW code (hs_call d) (hs_fin rk) := by
    unfold hs_ev
    rw [hp]
  rw [h1, hs_evW_go]
