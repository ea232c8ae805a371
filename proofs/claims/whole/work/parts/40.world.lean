/-! ===== the world: what the heap holds, by the abstract memory ===== -/
/-- classes' numbers, field slots, array classes by kind, addresses, the texts' byte arrays, the cells that are ours, the script and its length -/
abbrev hs_G : Type := (Nat → ClassId) × ((Nat → Nat → Nat) × ((Nat → ClassId) × ((Nat → Nat → Nat) × ((Nat → Nat) × ((Nat → Prop) × ((Nat → Int32) × Nat))))))
abbrev hs_gD (g : hs_G) : va_G := (g.1, g.2.1)
abbrev hs_gC (g : hs_G) : Nat → ClassId := g.2.2.1
abbrev hs_gA (g : hs_G) : Nat → Nat → Nat := g.2.2.2.1
abbrev hs_gV (g : hs_G) : Nat → Nat := g.2.2.2.2.1
abbrev hs_gP (g : hs_G) : Nat → Prop := g.2.2.2.2.2.1
abbrev hs_gX (g : hs_G) : Nat → Int32 := g.2.2.2.2.2.2.1
abbrev hs_gN (g : hs_G) : Nat := g.2.2.2.2.2.2.2
def hs_enc (g : hs_G) : hs_V → Value
  | .inl x => .int x
  | .inr (.inl x) => .long x
  | .inr (.inr q) => .ref (hs_gA g q.1 q.2)
theorem hs_enc_cat (g : hs_G) (v : hs_V) : (hs_enc g v).category = hs_cat v := by
  rcases v with x | x | x <;> rfl
/-- a reference that is one -/
def hs_ok : hs_V → Prop
  | .inr (.inr q) => (q.1 < 70 ∧ q.2 < hs_num q.1) ∨ (q.1 = 90 ∧ q.2 < 5) ∨ q = (70, 0)
  | _ => True
def hs_fv (g : hs_G) (μ : hs_M) (κ j : Nat) : Nat → List (Option (Nat × Nat × Nat)) → List Value
  | _, [] => []
  | k, none :: l => .int (μ.1 κ j k) :: hs_fv g μ κ j (k + 1) l
  | k, some (κ', 0, b) :: l => .ref (hs_gA g κ' b) :: hs_fv g μ κ j (k + 1) l
  | k, some (κ', _ + 1, b) :: l => .ref (hs_gA g κ' (j + b)) :: hs_fv g μ κ j (k + 1) l
def hs_cell (g : hs_G) (μ : hs_M) (κ j : Nat) : va_E := match hs_akind κ with
  | 0 => .inl (hs_gC g 0, hs_len μ κ j, .inl (μ.1 κ j))
  | 1 => .inl (hs_gC g 1, hs_len μ κ j, .inr (.inl (μ.2 κ j)))
  | 2 => .inl (hs_gC g 2, hs_len μ κ j, .inl (μ.1 κ j))
  | 3 => .inl (hs_gC g 3, hs_len μ κ j, .inr (.inr (.inr (.inr (fun i => some (hs_gA g 6 (hs_base κ + i)))))))
  | _ => .inr (κ, hs_fv g μ κ j 0 (hs_fld κ))
def hs_objs : List (Nat × Nat) := (List.range 70).flatMap fun κ => (List.range (hs_num κ)).map fun j => (κ, j)
theorem hs_mem_objs {κ j : Nat} : (κ, j) ∈ hs_objs ↔ κ < 70 ∧ j < hs_num κ := by
  simp only [hs_objs, List.mem_flatMap, List.mem_range, List.mem_map]
  constructor
  · rintro ⟨a, ha, b, hb, e⟩
    cases e
    exact ⟨ha, hb⟩
  · rintro ⟨a, b⟩
    exact ⟨κ, a, j, b, rfl⟩
def hs_ws (g : hs_G) (μ : hs_M) : va_W := hs_objs.map (fun q => (hs_gA g q.1 q.2, hs_cell g μ q.1 q.2))
theorem hs_ws_at {g : hs_G} {μ : hs_M} {q : Nat} {x : Nat × Nat} (h : hs_objs[q]? = some x) : (hs_ws g μ)[q]? = some (hs_gA g x.1 x.2, hs_cell g μ x.1 x.2) := by
  unfold hs_ws
  rw [List.getElem?_map, h]
  rfl
theorem hs_ws_get (g : hs_G) (μ : hs_M) {κ j : Nat} (h1 : κ < 70) (h2 : j < hs_num κ) : ∃ q : Nat, hs_objs[q]? = some (κ, j) ∧ (hs_ws g μ)[q]? = some (hs_gA g κ j, hs_cell g μ κ j) := by
  obtain ⟨q, hq⟩ := List.getElem?_of_mem (hs_mem_objs.mpr ⟨h1, h2⟩)
  exact ⟨q, hq, hs_ws_at hq⟩
/-- the heap holds the memory, the cells are apart and ours -/
def hs_Sc (g : hs_G) (μ : hs_M) : Prop := (∀ i, i < hs_gN g → μ.1 70 0 i = hs_gX g i) ∧ (μ.1 70 1 0).toNatClampNeg = hs_gN g
def hs_Wd (g : hs_G) (μ : hs_M) (H : Heap) : Prop := va_P (hs_gD g) hs_clas (hs_ws g μ) H ∧ va_D (hs_gP g) (hs_ws g μ) ∧ hs_Sc g μ
theorem hs_ws_set {g : hs_G} {μ μ' : hs_M} {q κ j : Nat} (hD : va_D (hs_gP g) (hs_ws g μ)) (hq : hs_objs[q]? = some (κ, j)) (ho : ∀ κ' j', κ' < 70 → (κ', j') ≠ (κ, j) → hs_cell g μ' κ' j' = hs_cell g μ κ' j') : (hs_ws g μ).set q (hs_gA g κ j, hs_cell g μ' κ j) = hs_ws g μ' := by
  apply List.ext_getElem?
  intro i
  rw [List.getElem?_set]
  have hlen : q < hs_objs.length := (List.getElem?_eq_some_iff.mp hq).1
  by_cases hi : q = i
  · subst hi
    rw [if_pos rfl, if_pos (by unfold hs_ws; rw [List.length_map]; exact hlen), hs_ws_at hq]
  · rw [if_neg hi]
    cases hx : hs_objs[i]? with
    | none => unfold hs_ws; rw [List.getElem?_map, List.getElem?_map, hx]; rfl
    | some x =>
      rw [hs_ws_at hx, hs_ws_at hx]
      obtain ⟨κ', j'⟩ := x
      have hne : (κ', j') ≠ (κ, j) := by
        intro e
        cases e
        exact hi (hD.1 q i _ _ (hs_ws_at hq) (hs_ws_at hx) rfl)
      rw [ho κ' j' (hs_mem_objs.mp (List.mem_of_getElem? hx)).1 hne]
theorem hs_len_free {μ μ' : hs_M} {κ j : Nat} (h : κ < 70) : hs_len μ κ j = hs_len μ' κ j := by
  unfold hs_len
  cases hb : (Nat.beq κ 33 || Nat.beq κ 34) with
  | true => rfl
  | false =>
    have : Nat.beq κ 70 = false := by
      cases hc : Nat.beq κ 70 with
      | false => rfl
      | true => exact absurd (Nat.eq_of_beq_eq_true hc) (by omega)
    dsimp only
    rw [this]
theorem hs_fv_congr {g : hs_G} {μ μ' : hs_M} {κ j : Nat} (h : ∀ i, μ'.1 κ j i = μ.1 κ j i) : ∀ (l : List (Option (Nat × Nat × Nat))) (k : Nat), hs_fv g μ' κ j k l = hs_fv g μ κ j k l
  | [], _ => rfl
  | none :: l, k => by simp only [hs_fv, h, hs_fv_congr h l]
  | some (κ', 0, b) :: l, k => by simp only [hs_fv, hs_fv_congr h l]
  | some (κ', n + 1, b) :: l, k => by simp only [hs_fv, hs_fv_congr h l]
theorem hs_cell_congr {g : hs_G} {μ μ' : hs_M} {κ j : Nat} (hκ : κ < 70) (h1 : μ'.1 κ j = μ.1 κ j) (h2 : μ'.2 κ j = μ.2 κ j) : hs_cell g μ' κ j = hs_cell g μ κ j := by
  unfold hs_cell
  have h3 : hs_fv g μ' κ j 0 (hs_fld κ) = hs_fv g μ κ j 0 (hs_fld κ) := hs_fv_congr (fun i => by rw [h1]) _ _
  rw [h1, h2, hs_len_free (μ := μ') (μ' := μ) hκ, h3]
theorem hs_wI_ne {μ : hs_M} {κ j i : Nat} {v : Int32} {κ' j' : Nat} (h : (κ', j') ≠ (κ, j)) : (hs_wI μ κ j i v).1 κ' j' = μ.1 κ' j' := by
  funext c
  show (if κ' = κ ∧ c = i ∧ j' = j then v else μ.1 κ' j' c) = _
  rw [if_neg]
  rintro ⟨a, -, b⟩
  exact h (by rw [a, b])
theorem hs_wL_ne {μ : hs_M} {κ j i : Nat} {v : Int64} {κ' j' : Nat} (h : (κ', j') ≠ (κ, j)) : (hs_wL μ κ j i v).2 κ' j' = μ.2 κ' j' := by
  funext c
  show (if κ' = κ ∧ c = i ∧ j' = j then v else μ.2 κ' j' c) = _
  rw [if_neg]
  rintro ⟨a, -, b⟩
  exact h (by rw [a, b])
theorem hs_cp_ne {μ : hs_M} {κ j sp κ1 j1 dp n : Nat} {κ' j' : Nat} (h : (κ', j') ≠ (κ1, j1)) : (hs_cp μ κ j sp κ1 j1 dp n).1 κ' j' = μ.1 κ' j' := by
  funext c
  show (if κ' = κ1 ∧ j' = j1 ∧ dp ≤ c ∧ c < dp + n then _ else μ.1 κ' j' c) = _
  rw [if_neg]
  rintro ⟨a, b, -⟩
  exact h (by rw [a, b])
theorem hs_cp_eq (μ : hs_M) (κ j sp κ1 j1 dp n : Nat) : (hs_cp μ κ j sp κ1 j1 dp n).1 κ1 j1 = va_cpy (μ.1 κ j) (μ.1 κ1 j1) sp dp n := by
  funext c
  show (if κ1 = κ1 ∧ j1 = j1 ∧ dp ≤ c ∧ c < dp + n then μ.1 κ j (sp + (c - dp)) else μ.1 κ1 j1 c) = (if dp ≤ c ∧ c < dp + n then _ else _)
  simp
theorem hs_wI_eq (μ : hs_M) (κ j i : Nat) (v : Int32) : (hs_wI μ κ j i v).1 κ j = upd (μ.1 κ j) i v := by
  funext c
  show (if κ = κ ∧ c = i ∧ j = j then v else μ.1 κ j c) = (if c = i then v else _)
  simp
theorem hs_wL_eq (μ : hs_M) (κ j i : Nat) (v : Int64) : (hs_wL μ κ j i v).2 κ j = vp_updL (μ.2 κ j) i v := by
  funext c
  show (if κ = κ ∧ c = i ∧ j = j then v else μ.2 κ j c) = (if c = i then v else _)
  simp
/-- the fields of an object, by their places -/
theorem hs_fv_at {g : hs_G} {μ : hs_M} {κ j : Nat} : ∀ (l : List (Option (Nat × Nat × Nat))) (k f : Nat), (hs_fv g μ κ j k l)[f]? = (hs_nth l f).map (fun x => match x with
    | none => Value.int (μ.1 κ j (k + f))
    | some (κ', 0, b) => .ref (hs_gA g κ' b)
    | some (κ', _ + 1, b) => .ref (hs_gA g κ' (j + b)))
  | [], _, _ => rfl
  | none :: l, k, 0 => rfl
  | some (κ', 0, b) :: l, k, 0 => rfl
  | some (κ', n + 1, b) :: l, k, 0 => rfl
  | none :: l, k, f + 1 => by
    have := hs_fv_at (g := g) (μ := μ) (κ := κ) (j := j) l (k + 1) f
    rw [show k + 1 + f = k + (f + 1) by omega] at this
    exact this
  | some (κ', 0, b) :: l, k, f + 1 => by
    have := hs_fv_at (g := g) (μ := μ) (κ := κ) (j := j) l (k + 1) f
    rw [show k + 1 + f = k + (f + 1) by omega] at this
    exact this
  | some (κ', n + 1, b) :: l, k, f + 1 => by
    have := hs_fv_at (g := g) (μ := μ) (κ := κ) (j := j) l (k + 1) f
    rw [show k + 1 + f = k + (f + 1) by omega] at this
    exact this
theorem hs_fv_set {g : hs_G} {μ : hs_M} {κ j f : Nat} {v : Int32} : ∀ (l : List (Option (Nat × Nat × Nat))) (k : Nat), k ≤ f → hs_nth l (f - k) = some none → hs_fv g (hs_wI μ κ j f v) κ j k l = (hs_fv g μ κ j k l).set (f - k) (.int v) := by
  intro l k hk hn
  have hup : (hs_wI μ κ j f v).1 κ j = upd (μ.1 κ j) f v := hs_wI_eq μ κ j f v
  apply List.ext_getElem?
  intro i
  rw [hs_fv_at, List.getElem?_set, hs_fv_at]
  by_cases hi : f - k = i
  · subst hi
    rw [if_pos rfl, hn]
    have hlt : f - k < (hs_fv g μ κ j k l).length := by
      have h1 := hs_fv_at (g := g) (μ := μ) (κ := κ) (j := j) l k (f - k)
      rw [hn] at h1
      exact (List.getElem?_eq_some_iff.mp h1).1
    rw [if_pos hlt]
    simp only [Option.map_some, hup, show k + (f - k) = f by omega, upd, if_pos]
  · rw [if_neg hi]
    congr 1
    funext x
    rcases x with _ | ⟨κ', n, b⟩
    · simp only [hup, upd, if_neg (show ¬ k + i = f by omega)]
    · cases n <;> rfl
