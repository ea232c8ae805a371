/-! ===== the world that the constructors leave ===== -/
def ha_gA (ad : List Nat) (P : List (Nat × Nat × Nat)) (b : Nat) (tx : Nat → Nat) (κ j : Nat) : Nat := if κ = 70 then b else if κ = 90 then tx j else match ha_look κ j P with
  | some a => (ad[a]?).getD 0
  | none => 0
def ha_mu (h : ha_H) (P : List (Nat × Nat × Nat)) (X : Nat → Int32) (N : Nat) : hs_M := (fun κ j i => if κ = 70 then (if j = 0 then X i else nI N) else match ha_look κ j P with
  | some a => (match hs_nth h a with
    | some (.inl (_, fs)) => (match hs_nth fs i with
      | some (.inl v) => v
      | _ => 0)
    | some (.inr (0, _, ws)) => ha_ai ws i
    | _ => 0)
  | none => 0, fun _ _ _ => 0)
theorem ha_look_mem {κ j a : Nat} : ∀ {P : List (Nat × Nat × Nat)}, ha_look κ j P = some a → (κ, j, a) ∈ P
  | [], h => by cases h
  | (κ', j', a') :: l, h => by
    unfold ha_look at h
    split at h
    · rename_i hb
      rw [Bool.and_eq_true] at hb
      have e1 : κ = κ' := Nat.eq_of_beq_eq_true hb.1
      have e2 : j = j' := Nat.eq_of_beq_eq_true hb.2
      cases h
      rw [e1, e2]
      exact List.mem_cons_self
    · exact List.mem_cons_of_mem _ (ha_look_mem h)
theorem ha_beq_ne {a b : Nat} (h : (!Nat.beq a b) = true) : a ≠ b := fun e => by
  subst e
  rw [Nat.beq_refl a] at h
  cases h
theorem ha_apart_at : ∀ {l : List Nat} {i j a : Nat}, ha_apart l = true → l[i]? = some a → l[j]? = some a → i = j
  | [], i, j, a, _, h, _ => by cases h
  | b :: l, 0, 0, a, _, _, _ => rfl
  | b :: l, 0, j + 1, a, hc, h1, h2 => by
    unfold ha_apart at hc
    rw [Bool.and_eq_true] at hc
    cases h1
    exact absurd rfl (ha_beq_ne (List.all_eq_true.mp hc.1 b (List.mem_of_getElem? h2)))
  | b :: l, i + 1, 0, a, hc, h1, h2 => by
    unfold ha_apart at hc
    rw [Bool.and_eq_true] at hc
    cases h2
    exact absurd rfl (ha_beq_ne (List.all_eq_true.mp hc.1 b (List.mem_of_getElem? h1)))
  | b :: l, i + 1, j + 1, a, hc, h1, h2 => by
    unfold ha_apart at hc
    rw [Bool.and_eq_true] at hc
    rw [ha_apart_at hc.2 h1 h2]
def ha_ndp : List (Nat × Nat) → Bool
  | [] => true
  | a :: l => l.all (fun b => !(Nat.beq a.1 b.1 && Nat.beq a.2 b.2)) && ha_ndp l
theorem ha_ndp_at : ∀ {l : List (Nat × Nat)} {i j : Nat} {x : Nat × Nat}, ha_ndp l = true → l[i]? = some x → l[j]? = some x → i = j
  | [], i, j, x, _, h, _ => by cases h
  | b :: l, 0, 0, x, _, _, _ => rfl
  | b :: l, 0, j + 1, x, hc, h1, h2 => by
    unfold ha_ndp at hc
    rw [Bool.and_eq_true] at hc
    cases h1
    have := List.all_eq_true.mp hc.1 b (List.mem_of_getElem? h2)
    rw [Nat.beq_refl, Nat.beq_refl] at this
    cases this
  | b :: l, i + 1, 0, x, hc, h1, h2 => by
    unfold ha_ndp at hc
    rw [Bool.and_eq_true] at hc
    cases h2
    have := List.all_eq_true.mp hc.1 b (List.mem_of_getElem? h1)
    rw [Nat.beq_refl, Nat.beq_refl] at this
    cases this
  | b :: l, i + 1, j + 1, x, hc, h1, h2 => by
    unfold ha_ndp at hc
    rw [Bool.and_eq_true] at hc
    rw [ha_ndp_at hc.2 h1 h2]
set_option maxRecDepth 100000 in
theorem ha_ndp_ok : ha_ndp hs_objs = true := by decide +kernel
theorem ha_arr_congr (c : ClassId) {n : Nat} {f f' : Nat → Option Nat} (h : ∀ i, i < n → f i = f' i) : vp_cell c (n, .inr (.inr (.inr (.inr f)))) = vp_cell c (n, .inr (.inr (.inr (.inr f')))) := by
  have e : (fun j : Fin n => va_rf (f j.val)) = (fun j : Fin n => va_rf (f' j.val)) := funext fun j => by rw [h j.val j.isLt]
  show ({ cls := c, slots := Array.ofFn (fun j : Fin n => va_rf (f j.val)), vm := .none } : Cell) = { cls := c, slots := Array.ofFn (fun j : Fin n => va_rf (f' j.val)), vm := .none }
  rw [e]
section
variable {D : va_G} {cA : Nat → ClassId} {A : Nat → Prop} {h : ha_H} {ws : va_W} {ad : List Nat} {P : List (Nat × Nat × Nat)} {b : Nat} {tx gV : Nat → Nat} {X : Nat → Int32} {N : Nat}
theorem ha_gA_at (h70 : P.all (fun q => Nat.blt q.1 70) = true) {κ j y a : Nat} (hl : ha_look κ j P = some y) (ha : ad[y]? = some a) : ha_gA ad P b tx κ j = a := by
  have hm := List.all_eq_true.mp h70 _ (ha_look_mem hl)
  have hk : κ < 70 := Nat.le_of_ble_eq_true hm
  unfold ha_gA
  rw [if_neg (by omega), if_neg (by omega), hl]
  show (ad[y]?).getD 0 = a
  rw [ha]
  rfl
theorem ha_fv (h70 : P.all (fun q => Nat.blt q.1 70) = true) {g : hs_G} (hg : hs_gA g = ha_gA ad P b tx) {μ : hs_M} {κ j : Nat} : ∀ (l : List (Option (Nat × Nat × Nat))) (fs : List ha_V) (vs : List Value) (k : Nat), ha_fok P j l fs = true → ha_all2 (ha_vr ad) fs vs → (∀ i v, hs_nth fs i = some (.inl v) → μ.1 κ j (k + i) = v) → hs_fv g μ κ j k l = vs
  | [], [], [], k, _, _, _ => rfl
  | none :: l, .inl v :: fs, x :: vs, k, hf, ha, hm => by
    have ih := ha_fv h70 hg l fs vs (k + 1) hf ha.2 (fun i w e => by rw [show k + 1 + i = k + (i + 1) by omega]; exact hm (i + 1) w e)
    have e : μ.1 κ j k = v := hm 0 v rfl
    have ex : x = .int v := ha.1
    show Value.int (μ.1 κ j k) :: hs_fv g μ κ j (k + 1) l = x :: vs
    rw [ih, e, ex]
  | some (κ', 0, c) :: l, .inr (some y) :: fs, x :: vs, k, hf, ha, hm => by
    unfold ha_fok at hf
    rw [Bool.and_eq_true] at hf
    have ih := ha_fv h70 hg l fs vs (k + 1) hf.2 ha.2 (fun i w e => by rw [show k + 1 + i = k + (i + 1) by omega]; exact hm (i + 1) w e)
    obtain ⟨a, a1, a2⟩ := ha.1
    show Value.ref (hs_gA g κ' c) :: hs_fv g μ κ j (k + 1) l = x :: vs
    have hf1 := hf.1
    cases hl : ha_look κ' c P with
    | none => rw [hl] at hf1; cases hf1
    | some z =>
      rw [hl] at hf1
      have : y = z := Nat.eq_of_beq_eq_true hf1
      subst this
      rw [ih, a2, hg, ha_gA_at h70 hl a1]
  | some (κ', n + 1, c) :: l, .inr (some y) :: fs, x :: vs, k, hf, ha, hm => by
    unfold ha_fok at hf
    rw [Bool.and_eq_true] at hf
    have ih := ha_fv h70 hg l fs vs (k + 1) hf.2 ha.2 (fun i w e => by rw [show k + 1 + i = k + (i + 1) by omega]; exact hm (i + 1) w e)
    obtain ⟨a, a1, a2⟩ := ha.1
    show Value.ref (hs_gA g κ' (j + c)) :: hs_fv g μ κ j (k + 1) l = x :: vs
    have hf1 := hf.1
    cases hl : ha_look κ' (j + c) P with
    | none => rw [hl] at hf1; cases hf1
    | some z =>
      rw [hl] at hf1
      have : y = z := Nat.eq_of_beq_eq_true hf1
      subst this
      rw [ih, a2, hg, ha_gA_at h70 hl a1]
  | [], _ :: _, _, _, hf, _, _ => by cases hf
  | none :: l, [], _, _, hf, _, _ => by cases hf
  | none :: l, .inr _ :: _, _, _, hf, _, _ => by cases hf
  | some (_, 0, _) :: l, [], _, _, hf, _, _ => by cases hf
  | some (_, 0, _) :: l, .inl _ :: _, _, _, hf, _, _ => by cases hf
  | some (_, 0, _) :: l, .inr none :: _, _, _, hf, _, _ => by cases hf
  | some (_, _ + 1, _) :: l, [], _, _, hf, _, _ => by cases hf
  | some (_, _ + 1, _) :: l, .inl _ :: _, _, _, hf, _, _ => by cases hf
  | some (_, _ + 1, _) :: l, .inr none :: _, _, _, hf, _, _ => by cases hf
  | [], [], _ :: _, _, _, ha, _ => ha.elim
  | none :: l, .inl _ :: _, [], _, _, ha, _ => ha.elim
  | some (_, 0, _) :: l, .inr (some _) :: _, [], _, _, ha, _ => ha.elim
  | some (_, _ + 1, _) :: l, .inr (some _) :: _, [], _, _, ha, _ => ha.elim
/-- one cell -/
theorem ha_cell (h70 : P.all (fun q => Nat.blt q.1 70) = true) {H : Heap} (hc : ha_all2 (fun (x : ha_E) (q : Nat × va_E) => ha_er cA ad x q.2) h ws) (hfst : ws.map Prod.fst = ad) (hP : va_P D hs_clas ws H) {κ j a : Nat} (hκ : κ < 70) (hl : ha_look κ j P = some a) (hok : ha_cok h P κ j a = true) : ∃ q, ws[a]? = some q ∧ ha_gA ad P b tx κ j = q.1 ∧ va_at D hs_clas (q.1, hs_cell (D.1, D.2, cA, ha_gA ad P b tx, gV, A, X, N) (ha_mu h P X N) κ j) H := by
  have mu1 : ∀ i, (ha_mu h P X N).1 κ j i = (match hs_nth h a with
    | some (.inl (_, fs)) => (match hs_nth fs i with
      | some (.inl v) => v
      | _ => 0)
    | some (.inr (0, _, ws)) => ha_ai ws i
    | _ => 0) := fun i => by
    show (if κ = 70 then _ else _) = _
    rw [if_neg (by omega), hl]
  have mu2 : (ha_mu h P X N).2 κ j = fun _ => 0 := rfl
  unfold ha_cok at hok
  cases hx : hs_nth h a with
  | none => rw [hx] at hok; cases hok
  | some x =>
    rw [hx] at hok
    simp only [hx] at mu1
    obtain ⟨⟨A', E⟩, w1, w2⟩ := hc.at hx
    have hw : va_at D hs_clas (A', E) H := hP a _ w1
    have had : ad[a]? = some A' := by
      rw [← hfst, List.getElem?_map, w1]
      rfl
    refine ⟨(A', E), w1, ha_gA_at h70 hl had, ?_⟩
    rcases x with ⟨κ', fs⟩ | ⟨t, n, vs⟩
    · dsimp only at hok
      simp only [Bool.and_eq_true] at hok
      obtain ⟨c1, c2, c3, c4⟩ := hok
      have e1 : κ = κ' := Nat.eq_of_beq_eq_true c1
      subst e1
      have e9 : hs_akind κ = 9 := Nat.eq_of_beq_eq_true c3
      obtain ⟨vs, v1, v2⟩ := w2
      have v1 : E = .inr (κ, vs) := v1
      have hcl : hs_cell (D.1, D.2, cA, ha_gA ad P b tx, gV, A, X, N) (ha_mu h P X N) κ j = .inr (κ, hs_fv (D.1, D.2, cA, ha_gA ad P b tx, gV, A, X, N) (ha_mu h P X N) κ j 0 (hs_fld κ)) := by
        unfold hs_cell
        rw [e9]
        rfl
      rw [hcl, ha_fv (b := b) (tx := tx) h70 (g := (D.1, D.2, cA, ha_gA ad P b tx, gV, A, X, N)) rfl (hs_fld κ) fs vs 0 c4 v2 (fun i v e => by
        rw [Nat.zero_add, mu1 i]
        dsimp only
        rw [e])]
      rw [v1] at hw
      exact hw
    · dsimp only at hok
      simp only [Bool.and_eq_true] at hok
      obtain ⟨c1, c2, c3, c4⟩ := hok
      have e1 : t = hs_akind κ := Nat.eq_of_beq_eq_true c1
      have e3 : n = hs_len (ha_mu h P X N) κ j := (Nat.eq_of_beq_eq_true c3).trans (hs_len_free hκ)
      unfold hs_cell
      rw [← e1, ← e3]
      rcases t with _ | _ | _ | _ | t
      · obtain ⟨f, f1, f2⟩ := w2
        have f1 : E = .inl (cA 0, n, .inl f) := f1
        have ef : f = (ha_mu h P X N).1 κ j := funext fun i => (f2 i).trans (mu1 i).symm
        rw [f1, ef] at hw
        exact hw
      · have f1 : E = .inl (cA 1, n, .inr (.inl (fun _ => 0))) := w2
        rw [f1] at hw
        exact hw
      · have f1 : E = .inl (cA 2, n, .inl (fun _ => 0)) := w2
        have ef : (fun _ => 0) = (ha_mu h P X N).1 κ j := funext fun i => (mu1 i).symm
        rw [f1, ef] at hw
        exact hw
      · obtain ⟨f, f1, f2⟩ := w2
        have f1 : E = .inl (cA 3, n, .inr (.inr (.inr (.inr f)))) := f1
        rw [f1] at hw
        have hw : H[A']? = some (vp_cell (cA 3) (n, .inr (.inr (.inr (.inr f))))) := hw
        show H[A']? = some (vp_cell (cA 3) (n, .inr (.inr (.inr (.inr (fun i => some (ha_gA ad P b tx 6 (hs_base κ + i))))))))
        rw [hw, ha_arr_congr (cA 3) (f' := fun i => some (ha_gA ad P b tx 6 (hs_base κ + i))) (fun i hi => ?_)]
        have q := List.all_eq_true.mp c4 i (List.mem_range.mpr hi)
        have r := f2 i
        unfold ha_fr at r
        split at q
        · rename_i x y e1 e2
          rw [e1] at r
          obtain ⟨a', r1, r2⟩ := r
          have : x = y := Nat.eq_of_beq_eq_true q
          subst this
          rw [r2, ha_gA_at h70 e2 r1]
        · cases q
      · exact absurd c2 (by
          intro z
          have := Nat.le_of_ble_eq_true z
          omega)
theorem ha_world {H : Heap} (h70 : P.all (fun q => Nat.blt q.1 70) = true) (hc : ha_all2 (fun (x : ha_E) (q : Nat × va_E) => ha_er cA ad x q.2) h ws) (hfst : ws.map Prod.fst = ad) (hP : va_P D hs_clas ws H) (hD : va_D A ws) (hg : ha_good h P = true) (hN : N < 2 ^ 31) : hs_Wd (D.1, D.2, cA, ha_gA ad P b tx, gV, A, X, N) (ha_mu h P X N) H := by
  unfold ha_good at hg
  rw [Bool.and_eq_true] at hg
  have key : ∀ (k : Nat) (q : Nat × va_E), (hs_ws (D.1, D.2, cA, ha_gA ad P b tx, gV, A, X, N) (ha_mu h P X N))[k]? = some q → ∃ (κ j a : Nat) (r : Nat × va_E), hs_objs[k]? = some (κ, j) ∧ ha_look κ j P = some a ∧ ws[a]? = some r ∧ q.1 = r.1 ∧ va_at D hs_clas q H := by
    intro k q hq
    unfold hs_ws at hq
    rw [List.getElem?_map] at hq
    cases ho : hs_objs[k]? with
    | none => rw [ho] at hq; cases hq
    | some x =>
      rw [ho] at hq
      obtain ⟨κ, j⟩ := x
      have hq := Option.some.inj hq
      have hm := List.mem_of_getElem? ho
      have hx := List.all_eq_true.mp hg.1 _ hm
      dsimp only at hx
      cases hl : ha_look κ j P with
      | none => rw [hl] at hx; cases hx
      | some a =>
        rw [hl] at hx
        obtain ⟨r, r1, r2, r3⟩ := ha_cell (b := b) (tx := tx) (gV := gV) (A := A) (X := X) (N := N) h70 hc hfst hP (hs_mem_objs.mp hm).1 hl hx
        refine ⟨κ, j, a, r, rfl, hl, r1, ?_, ?_⟩
        · rw [← hq, ← r2]
        · rw [← hq]
          show va_at D hs_clas (ha_gA ad P b tx κ j, _) H
          rw [r2]
          exact r3
  refine ⟨fun k q hq => ?_, ⟨fun i j p q hp hq e => ?_, fun k q hq => ?_⟩, fun i hi => ?_, ?_⟩
  · obtain ⟨_, _, _, _, _, _, _, _, r⟩ := key k q hq
    exact r
  · obtain ⟨κ1, j1, a1, r1, o1, l1, w1, e1, _⟩ := key i p hp
    obtain ⟨κ2, j2, a2, r2, o2, l2, w2, e2, _⟩ := key j q hq
    have ea : a1 = a2 := hD.1 a1 a2 r1 r2 w1 w2 (by rw [← e1, ← e2, e])
    subst ea
    obtain ⟨i1, m1⟩ := List.getElem?_of_mem (ha_look_mem l1)
    obtain ⟨i2, m2⟩ := List.getElem?_of_mem (ha_look_mem l2)
    have ei : i1 = i2 := ha_apart_at hg.2 (i := i1) (j := i2) (a := a1) (by rw [List.getElem?_map, m1]; rfl) (by rw [List.getElem?_map, m2]; rfl)
    subst ei
    have := Option.some.inj (m1.symm.trans m2)
    cases this
    exact ha_ndp_at ha_ndp_ok o1 o2
  · obtain ⟨_, _, a, r, _, _, w, e, _⟩ := key k q hq
    rw [e]
    exact hD.2 a r w
  · have e : (ha_mu h P X N).1 70 0 i = X i := by simp [ha_mu]
    exact e
  · have e : (ha_mu h P X N).1 70 1 0 = nI N := by simp [ha_mu]
    rw [e, nI_clamp hN]
end
