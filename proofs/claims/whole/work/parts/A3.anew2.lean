/-! ===== the allocating machine: new cells and their fields ===== -/
def ha_isr (ty : FieldType) : Bool := match ty with
  | .object _ => true
  | .array _ => true
  | _ => false
def ha_tyok (x : Option (Nat × Nat × Nat)) (ty : FieldType) : Bool := match x with
  | none => decide (ty = .int)
  | some _ => ha_isr ty
theorem ha_fit {x : Option (Nat × Nat × Nat)} {ty : FieldType} {v : ha_V} {y : Value} {ad : List Nat} (h1 : ha_isI x v = true) (h2 : ha_vr ad v y) (h3 : ha_tyok x ty = true) : narrow ty y = y ∧ fits ty y = true := by
  rcases x with _ | x
  · rcases v with z | _ | z
    · cases h2
      have : ty = .int := by simpa [ha_tyok] using h3
      subst this
      exact ⟨rfl, rfl⟩
    · cases h1
    · cases h1
  · rcases v with z | _ | z
    · cases h1
    · cases h1
    · obtain ⟨a, -, rfl⟩ := h2
      cases ty <;> first | exact ⟨rfl, rfl⟩ | cases h3
def ha_df (κ : Nat) : List Value := (hs_fld κ).map (fun x => match x with
  | none => .int 0
  | some _ => .null)
def ha_same (a b : Value) : Bool := match a, b with
  | .int x, .int y => decide (x = y)
  | .null, .null => true
  | _, _ => false
theorem ha_same_eq {a b : Value} (h : ha_same a b = true) : a = b := by
  unfold ha_same at h
  split at h
  · rw [of_decide_eq_true h]
  · rfl
  · cases h
theorem ha_df_all : (List.range 13).all (fun κ => (List.range (hs_cN κ)).all (fun j => ha_same (defaultValue (hs_cty κ j)) (vp_V (ha_df κ) j))) = true := by decide +kernel
theorem ha_df_ok {κ : Nat} (h : κ < 13) : ∀ j, j < hs_cN κ → defaultValue (hs_cty κ j) = vp_V (ha_df κ) j := fun j hj => ha_same_eq (List.all_eq_true.mp (List.all_eq_true.mp ha_df_all κ (List.mem_range.mpr h)) j (List.mem_range.mpr hj))
theorem ha_df_vr (ad : List Nat) : ∀ l : List (Option (Nat × Nat × Nat)), ha_all2 (ha_vr ad) (l.map (fun x => match x with
  | none => .inl 0
  | some _ => .inr none)) (l.map (fun x => match x with
  | none => Value.int 0
  | some _ => .null))
  | [] => trivial
  | none :: l => ⟨rfl, ha_df_vr ad l⟩
  | some _ :: l => ⟨rfl, ha_df_vr ad l⟩
theorem ha_cN_le {κ : Nat} (h : κ < 13) : hs_cN κ ≤ 46 := (show ∀ κ, κ < 13 → hs_cN κ ≤ 46 by decide) κ h
theorem ha_s_new {D : va_G} {cA : Nat → ClassId} {A : Nat → Prop} {p : Program} {l : Launch} {e : Env} {R : Room} {s : State} {m : MethodId} {args : Array Value} {below : List Frame} {meth : Method} {c : Code} {own : Nat} {cc : ByteArray} {nL c0 s0 : Nat} {aP : List Nat} {Q : State → Prop} (C : ha_Ctx D cA A p R s m args c own cc nL) {ρ : Type} {call : ha_C} {k done : ha_T ρ} {res : ρ} {pc : Nat} {mk : List Bool} {L : ha_L} {st : List ha_V} {h : ha_H} {idx κ : Nat} (h13 : κ < 13) (hcl : (Cond.classLink (hs_own own) idx (hs_cR κ)).before args s = true) (hinst : (Cond.instantiable (hs_cR κ) (hs_cN κ)).before args s = true) (hini : (Cond.initialized (hs_cR κ)).before args s = true) (hm : ∀ pc' L' st' h', k pc' L' st' h' = some res → h'.length ≤ R.cells + c0 ∧ ha_cost h' ≤ R.slots + s0) (hd : decode cc pc = .ok (.new idx, 3)) (ex : ha_step call k done (.new idx, 3, [κ], mk) pc L st h = some res) (hk : ∀ pc' L' st' h', k pc' L' st' h' = some res → ha_WS D cA A p l e R s m args below meth c nL c0 s0 aP Q pc' L' st' h') : ha_WS D cA A p l e R s m args below meth c nL c0 s0 aP Q pc L st h := by
  obtain ⟨hexec, hb, -, hown, hts, hK, hA, hAO⟩ := C
  unfold ha_step at ex
  dsimp only at ex
  unfold hs_if at ex
  cases hi : Nat.blt h.length 500 with
  | false => rw [hi] at ex; cases ex
  | true =>
    rw [hi] at ex
    dsimp only at ex
    have h5 := hs_blt hi
    intro ls xs H locs cells slots ad ws hr
    have hcs := hr.2.2.2.2.2.2.2.2
    have hle := ha_cN_le h13
    have hm1 := hm _ _ _ _ ex
    rw [List.length_append, List.length_singleton, ha_cost_app, show ha_co (ha_new κ) = hs_cN κ from rfl] at hm1
    have hc1 : cells + 1 ≤ R.cells := by omega
    have hs1 : slots + hs_cN κ ≤ R.slots := by omega
    refine va_new hexec hb hts (hs_lays h13) (hs_cty κ) (hs_cty_ok h13) hown hcl hinst hini hK hr.2.2.2.2.2.1 hr.2.2.2.2.2.2.1 hr.2.2.2.2.2.2.2.1 hA (hs_clas_at h13) (fs := ha_df κ) (ha_df_ok h13) hc1 hs1 hd (fun q H1 hP hD hS => ?_)
    have hle2 : hs_cN κ ≤ 4000 := by omega
    exact hk _ _ _ _ ex ls _ H1 locs _ _ _ _ (hr.push (x := ha_new κ) h5 rfl hle2 ⟨ha_df κ, rfl, ha_df_vr _ _⟩ hr.2.2.1 hP hD hS)
theorem ha_s_anewarray {D : va_G} {cA : Nat → ClassId} {A : Nat → Prop} {p : Program} {l : Launch} {e : Env} {R : Room} {s : State} {m : MethodId} {args : Array Value} {below : List Frame} {meth : Method} {c : Code} {own : Nat} {cc : ByteArray} {nL c0 s0 : Nat} {aP : List Nat} {Q : State → Prop} (C : ha_Ctx D cA A p R s m args c own cc nL) {ρ : Type} {call : ha_C} {k done : ha_T ρ} {res : ρ} {pc : Nat} {mk : List Bool} {L : ha_L} {st : List ha_V} {h : ha_H} {idx : Nat} {ops : List Nat} (hcl : (Cond.classLink (hs_own own) idx "HeavierServes$State").before args s = true) (hm : ∀ pc' L' st' h', k pc' L' st' h' = some res → h'.length ≤ R.cells + c0 ∧ ha_cost h' ≤ R.slots + s0) (hd : decode cc pc = .ok (.anewarray idx, 3)) (ex : ha_step call k done (.anewarray idx, 3, ops, mk) pc L st h = some res) (hk : ∀ pc' L' st' h', k pc' L' st' h' = some res → ha_WS D cA A p l e R s m args below meth c nL c0 s0 aP Q pc' L' st' h') : ha_WS D cA A p l e R s m args below meth c nL c0 s0 aP Q pc L st h := by
  obtain ⟨hexec, hb, -, hown, hts, hK, hA, hAO⟩ := C
  unfold ha_step at ex
  dsimp only at ex
  split at ex
  · rename_i N st0
    unfold hs_if at ex
    cases hi : (hs_in N 4000 && Nat.blt h.length 500) with
    | false => rw [hi] at ex; cases ex
    | true =>
      rw [hi] at ex
      dsimp only at ex
      simp only [Bool.and_eq_true] at hi
      have h5 := hs_blt hi.2
      have h4 := hs_in_lt hi.1
      have h3 : ¬ N < 0 := fun q => (hs_in_vp hi.1) (Or.inl q)
      intro ls xs H locs cells slots ad ws hr
      obtain ⟨y, xs', rfl, hv, hst⟩ := hr.2.2.1.cons
      cases hv
      have hcs := hr.2.2.2.2.2.2.2.2
      have hB : N.toNatClampNeg * 4 ≤ 536870912 := by omega
      have hm1 := hm _ _ _ _ ex
      rw [List.length_append, List.length_singleton, ha_cost_app] at hm1
      simp only [ha_co] at hm1
      have hc1 : cells + 1 ≤ R.cells := by omega
      have hs1 : slots + N.toNatClampNeg ≤ R.slots := by omega
      refine va_newq (C := "HeavierServes$State") (N' := N.toNatClampNeg) hexec hb hown hcl hAO hK hr.2.2.2.2.2.1 hr.2.2.2.2.2.2.1 hr.2.2.2.2.2.2.2.1 hA h3 rfl hB hc1 hs1 hd (fun q cA' H1 hK' hP hD hS => ?_)
      obtain ⟨-, -, -, -, -, e1⟩ : va_RA s cA' (.object "HeavierServes$State") := (hK'.2 4 (cA', .object "HeavierServes$State") rfl).2
      obtain ⟨-, -, -, -, -, e2⟩ : va_RA s (cA 3) (.object "HeavierServes$State") := (hK.2 3 (cA 3, .object "HeavierServes$State") rfl).2
      have e3 : cA' = cA 3 := Option.some.inj (e1.symm.trans e2)
      subst e3
      exact hk _ _ _ _ ex ls _ H1 locs _ _ _ _ (hr.push (x := .inr (3, N.toNatClampNeg, [])) h5 rfl (Nat.le_of_lt h4) ⟨_, rfl, fun _ => rfl⟩ hst hP hD hS)
  · cases ex
theorem ha_s_putfield {D : va_G} {cA : Nat → ClassId} {A : Nat → Prop} {p : Program} {l : Launch} {e : Env} {R : Room} {s : State} {m : MethodId} {args : Array Value} {below : List Frame} {meth : Method} {c : Code} {own : Nat} {cc : ByteArray} {nL c0 s0 : Nat} {aP : List Nat} {Q : State → Prop} (C : ha_Ctx D cA A p R s m args c own cc nL) (hin2 : meth.name = "<init>") {ρ : Type} {call : ha_C} {k done : ha_T ρ} {res : ρ} {pc : Nat} {mk : List Bool} {L : ha_L} {st : List ha_V} {h : ha_H} {idx ci f : Nat} {ty : Option (Nat × Nat × Nat)} (h13 : ci < 13) (hfN : f < hs_cN ci) (hf1 : hs_any hs_fl own idx ci f = true) (hfl : hs_nth (hs_fld ci) f = some ty) (hty : ha_tyok ty (hs_cty ci f) = true) (hfin : (hs_cT ci f).2.2.2 = true → (hs_cT ci f).1 = hs_own own) (hd : decode cc pc = .ok (.putfield idx, 3)) (ex : ha_step call k done (.putfield idx, 3, [ci, f], mk) pc L st h = some res) (hk : ∀ pc' L' st' h', k pc' L' st' h' = some res → ha_WS D cA A p l e R s m args below meth c nL c0 s0 aP Q pc' L' st' h') : ha_WS D cA A p l e R s m args below meth c nL c0 s0 aP Q pc L st h := by
  obtain ⟨hexec, hb, -, hown, hts, hK, hA, hAO⟩ := C
  unfold ha_step at ex
  dsimp only at ex
  split at ex
  · rename_i ci' f' v a st0 hops
    cases hops
    split at ex
    · rename_i κ fs hx
      unfold hs_if at ex
      split at ex
      · rename_i hc
        simp only [Bool.and_eq_true] at hc
        obtain ⟨c1, c2, c3⟩ := hc
        have c1 := Nat.eq_of_beq_eq_true c1
        subst c1
        rw [hfl] at c3
        dsimp only at c3
        have c2 := hs_blt c2
        intro ls xs H locs cells slots ad ws hr
        obtain ⟨y, xs', rfl, hv, hst⟩ := hr.2.2.1.cons
        obtain ⟨z, xs', rfl, hz, hst2⟩ := hst.cons
        obtain ⟨b, hb1, rfl⟩ := hz
        obtain ⟨E, hw, he⟩ := ha_cell_at hr hx hb1
        obtain ⟨vs, rfl, hvs⟩ := he
        obtain ⟨n1, n2⟩ := ha_fit c3 hv hty
        have hl : f < vs.length := by rw [← hvs.length]; exact c2
        cases hff : (hs_cT κ f).2.2.2 with
        | false => exact va_put hexec hb hts (hs_lays h13) (hs_cty κ) (hs_cty_ok h13) (hs_cnm_ok h13) hown hK hr.2.2.2.2.2.1 hr.2.2.2.2.2.2.1 hr.2.2.2.2.2.2.2.1 a hw (hs_clas_at h13) f hfN (hts _ (hs_w_fl hf1)) (fun x h => h) hff (ty := hs_cty κ f) (v := y) (hs_cty_ok h13 f hfN) n1 n2 hl hd (fun H1 locs1 hP hD hS => hk _ _ _ _ ex ls _ H1 locs1 cells slots ad _ (hr.put hx hw rfl ⟨_, rfl, ha_all2.set hv hvs⟩ hst2 hP hD hS))
        | true => exact va_putF hexec hb hts (hs_lays h13) (hs_cty κ) (hs_cty_ok h13) (hs_cnm_ok h13) hown hK hr.2.2.2.2.2.1 hr.2.2.2.2.2.2.1 hr.2.2.2.2.2.2.2.1 a hw (hs_clas_at h13) f hfN (hts _ (hs_w_fl hf1)) (fun x h => h) hff hin2 (hfin hff) (ty := hs_cty κ f) (v := y) (hs_cty_ok h13 f hfN) n1 n2 hl hd (fun H1 locs1 hP hD hS => hk _ _ _ _ ex ls _ H1 locs1 cells slots ad _ (hr.put hx hw rfl ⟨_, rfl, ha_all2.set hv hvs⟩ hst2 hP hD hS))
      · cases ex
    · cases ex
  · cases ex
