/-! ===== the allocating machine: memory ===== -/
theorem ha_cell_at {D : va_G} {cA : Nat → ClassId} {A : Nat → Prop} {nL c0 s0 : Nat} {aP : List Nat} {s : State} {L : ha_L} {st : List ha_V} {h : ha_H} {ls : Array Slot} {xs : List Value} {H : Heap} {locs : List Loc} {cells slots : Nat} {ad : List Nat} {ws : va_W} (hr : ha_rel D cA A nL c0 s0 aP s L st h ls xs H locs cells slots ad ws) {i a : Nat} {x : ha_E} (hx : hs_nth h i = some x) (ha : ad[i]? = some a) : ∃ E : va_E, ws[i]? = some (a, E) ∧ ha_er cA ad x E := by
  obtain ⟨⟨b, E⟩, h1, h2⟩ := hr.2.2.2.2.1.at hx
  have h3 : (ws.map Prod.fst)[i]? = some b := by rw [List.getElem?_map, h1]; rfl
  rw [hr.2.2.2.1, ha] at h3
  cases h3
  exact ⟨E, h1, h2⟩
theorem ha_fst_set {ws : va_W} {i a : Nat} {E E' : va_E} (h : ws[i]? = some (a, E)) : (ws.set i (a, E')).map Prod.fst = ws.map Prod.fst := by
  apply List.ext_getElem?
  intro j
  rw [List.getElem?_map, List.getElem?_map, List.getElem?_set]
  by_cases hj : i = j
  · subst hj
    rw [if_pos rfl, if_pos (List.getElem?_eq_some_iff.mp h).1, h]
    rfl
  · rw [if_neg hj]
theorem ha_cost_set : ∀ {h : ha_H} {i : Nat} {x x' : ha_E}, hs_nth h i = some x → ha_co x' = ha_co x → ha_cost (h.set i x') = ha_cost h
  | [], _, _, _, h, _ => by cases h
  | _ :: _, 0, _, _, h, e => by
    cases h
    simp only [ha_cost, List.set_cons_zero, List.map_cons, List.sum_cons, e]
  | a :: l, i + 1, x, x', h, e => by
    have := ha_cost_set (h := l) (i := i) h e
    simp only [ha_cost] at this
    simp only [ha_cost, List.set_cons_succ, List.map_cons, List.sum_cons, this]
theorem ha_cost_app (h : ha_H) (x : ha_E) : ha_cost (h ++ [x]) = ha_cost h + ha_co x := by simp [ha_cost]
theorem ha_rel.put {D : va_G} {cA : Nat → ClassId} {A : Nat → Prop} {nL c0 s0 : Nat} {aP : List Nat} {s : State} {L : ha_L} {st : List ha_V} {h : ha_H} {ls : Array Slot} {xs : List Value} {H : Heap} {locs : List Loc} {cells slots : Nat} {ad : List Nat} {ws : va_W} (hr : ha_rel D cA A nL c0 s0 aP s L st h ls xs H locs cells slots ad ws) {i a : Nat} {x x' : ha_E} {E E' : va_E} {st' : List ha_V} {xs' : List Value} {H1 : Heap} {locs1 : List Loc} (hx : hs_nth h i = some x) (hw : ws[i]? = some (a, E)) (hco : ha_co x' = ha_co x) (he : ha_er cA ad x' E') (hst : ha_all2 (ha_vr ad) st' xs') (hP : va_P D hs_clas (ws.set i (a, E')) H1) (hD : va_D A (ws.set i (a, E'))) (hS : va_S A s.heap H1 locs1) : ha_rel D cA A nL c0 s0 aP s L st' (h.set i x') ls xs' H1 locs1 cells slots ad (ws.set i (a, E')) := by
  obtain ⟨h1, h2, -, h4, h5, -, -, -, h9, h10, h11, h12⟩ := hr
  refine ⟨h1, h2, hst, by rw [ha_fst_set hw]; exact h4, ha_all2.set (P := fun (x : ha_E) (q : Nat × va_E) => ha_er cA ad x q.2) he h5, hP, hD, hS, by rw [List.length_set]; exact h9, ?_, ?_, by rw [List.length_set]; exact h12.1, h12.2⟩
  · rw [ha_cost_set hx hco]; exact h10
  · rw [ha_cost_set hx hco, List.length_set]; exact h11
theorem ha_rel.push {D : va_G} {cA : Nat → ClassId} {A : Nat → Prop} {nL c0 s0 : Nat} {aP : List Nat} {s : State} {L : ha_L} {st : List ha_V} {h : ha_H} {ls : Array Slot} {xs : List Value} {H : Heap} {locs : List Loc} {cells slots : Nat} {ad : List Nat} {ws : va_W} (hr : ha_rel D cA A nL c0 s0 aP s L st h ls xs H locs cells slots ad ws) {q : Nat} {x : ha_E} {E : va_E} {st' : List ha_V} {xs' : List Value} {H1 : Heap} {N : Nat} (h500 : h.length < 500) (hN : ha_co x = N) (hle : N ≤ 4000) (he : ha_er cA (ad ++ [q]) x E) (hst : ha_all2 (ha_vr ad) st' xs') (hP : va_P D hs_clas (ws ++ [(q, E)]) H1) (hD : va_D A (ws ++ [(q, E)])) (hS : va_S A s.heap H1 locs) : ha_rel D cA A nL c0 s0 aP s L (.inr (some h.length) :: st') (h ++ [x]) ls (.ref q :: xs') H1 locs (cells + 1) (slots + N) (ad ++ [q]) (ws ++ [(q, E)]) := by
  obtain ⟨⟨el, e1, e2⟩, h2, -, h4, h5, -, -, -, h9, h10, h11, -, e0, hex⟩ := hr
  have hlen : ad.length = h.length := by rw [← h4, List.length_map, h5.length]
  have hc : ha_cost (h ++ [x]) = ha_cost h + N := by
    rw [← hN]
    simp [ha_cost]
  refine ⟨⟨el, e1, fun k v hv => ?_⟩, h2, ⟨⟨q, ?_, rfl⟩, hst.mono (fun _ _ h => h.app _)⟩, by rw [List.map_append, h4]; rfl, ?_, hP, hD, hS, by rw [List.length_append, List.length_singleton]; omega, by rw [hc]; omega, by rw [hc, List.length_append, List.length_singleton]; omega, by rw [List.length_append, List.length_singleton]; omega, e0 ++ [q], by rw [hex, List.append_assoc]⟩
  · obtain ⟨y, hy, hz⟩ := e2 k v hv
    exact ⟨y, hy, hz.app _⟩
  · rw [List.getElem?_append_right (by omega), hlen, Nat.sub_self]; rfl
  · exact ha_all2.push (P := fun (x : ha_E) (q' : Nat × va_E) => ha_er cA (ad ++ [q]) x q'.2) he (h5.mono (fun _ _ h => ha_er.app h _))
theorem ha_asc_cons (i k : Nat) (v : ha_V) (l : List (Nat × ha_V)) : ha_asc i ((k, v) :: l) = if i = k then some v else ha_asc i l := by
  by_cases hc : i = k
  · subst hc
    rw [if_pos rfl]
    simp only [ha_asc, Nat.beq_refl]
  · rw [if_neg hc]
    have : Nat.beq i k = false := by
      cases hb : Nat.beq i k with
      | false => rfl
      | true => exact absurd (Nat.eq_of_beq_eq_true hb) hc
    simp only [ha_asc, this]
theorem ha_s_getfield {D : va_G} {cA : Nat → ClassId} {A : Nat → Prop} {p : Program} {l : Launch} {e : Env} {R : Room} {s : State} {m : MethodId} {args : Array Value} {below : List Frame} {meth : Method} {c : Code} {own : Nat} {cc : ByteArray} {nL c0 s0 : Nat} {aP : List Nat} {Q : State → Prop} (C : ha_Ctx D cA A p R s m args c own cc nL)  {idx : Nat} {ρ : Type} {call : ha_C} {k done : ha_T ρ} {res : ρ} {pc n : Nat} {ops : List Nat} {mk : List Bool} {L : ha_L} {st : List ha_V} {h : ha_H} (hd : decode cc pc = .ok (.getfield idx, n)) (hok : hs_okr own pc (.getfield idx, n, ops, mk) = true) (ex : ha_step call k done (.getfield idx, n, ops, mk) pc L st h = some res) (hk : ∀ pc' L' st' h', k pc' L' st' h' = some res → ha_WS D cA A p l e R s m args below meth c nL c0 s0 aP Q pc' L' st' h') : ha_WS D cA A p l e R s m args below meth c nL c0 s0 aP Q pc L st h := by
  obtain ⟨hexec, hb, -, hown, hts, hK, hA, hAO⟩ := C
  unfold ha_step at ex
  dsimp only at ex
  split at ex
  · rename_i ci f a st0
    split at ex
    · rename_i κ fs hx
      unfold hs_if at ex
      cases hκ : Nat.beq κ ci with
      | false => rw [hκ] at ex; cases ex
      | true =>
        rw [hκ] at ex
        dsimp only at ex
        have hκ := Nat.eq_of_beq_eq_true hκ
        subst hκ
        simp only [hs_okr, Bool.and_eq_true] at hok
        have hn : n = 3 := Nat.eq_of_beq_eq_true hok.1
        subst hn
        have hf1 := hok.2.1
        have hfN : f < hs_cN κ := hs_blt hok.2.2.1
        have h13 : κ < 13 := hs_blt hok.2.2.2
        split at ex
        · rename_i v hf
          intro ls xs H locs cells slots ad ws hr
          obtain ⟨y, xs', rfl, hv, hst⟩ := hr.2.2.1.cons
          obtain ⟨b, hb1, rfl⟩ := hv
          obtain ⟨E, hw, he⟩ := ha_cell_at hr hx hb1
          obtain ⟨vs, rfl, hvs⟩ := he
          obtain ⟨z, hz, hzv⟩ := hvs.at hf
          exact va_get hexec hb hts (hs_lays h13) hown hK hr.2.2.2.2.2.1 a hw (hs_clas_at h13) f hfN (hts _ (hs_w_fl hf1)) (fun x h => h) (v := z) hz hd (hk _ _ _ _ ex ls _ H locs cells slots ad ws (hr.st ⟨hzv, hst⟩))
        · cases ex
    · cases ex
  · cases ex
/-- what is asked of a row that the first machine has not -/
def ha_okr (own pc : Nat) (r : hs_R) : Bool := match r.1 with
  | .iastore => Nat.beq r.2.1 1
  | .aastore => Nat.beq r.2.1 1
  | .newarray _ => Nat.beq r.2.1 2
  | .anewarray idx => Nat.beq r.2.1 3
  | _ => hs_okr own pc r
theorem ha_s_iastore {D : va_G} {cA : Nat → ClassId} {A : Nat → Prop} {p : Program} {l : Launch} {e : Env} {R : Room} {s : State} {m : MethodId} {args : Array Value} {below : List Frame} {meth : Method} {c : Code} {own : Nat} {cc : ByteArray} {nL c0 s0 : Nat} {aP : List Nat} {Q : State → Prop} (C : ha_Ctx D cA A p R s m args c own cc nL)   {ρ : Type} {call : ha_C} {k done : ha_T ρ} {res : ρ} {pc n : Nat} {ops : List Nat} {mk : List Bool} {L : ha_L} {st : List ha_V} {h : ha_H} (hd : decode cc pc = .ok (.iastore, n)) (hok : ha_okr own pc (.iastore, n, ops, mk) = true) (ex : ha_step call k done (.iastore, n, ops, mk) pc L st h = some res) (hk : ∀ pc' L' st' h', k pc' L' st' h' = some res → ha_WS D cA A p l e R s m args below meth c nL c0 s0 aP Q pc' L' st' h') : ha_WS D cA A p l e R s m args below meth c nL c0 s0 aP Q pc L st h := by
  obtain ⟨hexec, hb, -, hown, hts, hK, hA, hAO⟩ := C
  unfold ha_step at ex
  dsimp only at ex
  have hn : n = 1 := Nat.eq_of_beq_eq_true hok
  subst hn
  split at ex
  · rename_i v i a st0
    split at ex
    · rename_i N wr hx
      unfold hs_if at ex
      cases hi : hs_in i N with
      | false => rw [hi] at ex; cases ex
      | true =>
        rw [hi] at ex
        dsimp only at ex
        intro ls xs H locs cells slots ad ws hr
        obtain ⟨y, xs', rfl, hv, hst⟩ := hr.2.2.1.cons
        cases hv
        obtain ⟨y, xs', rfl, hv, hst2⟩ := hst.cons
        cases hv
        obtain ⟨y, xs', rfl, hv, hst3⟩ := hst2.cons
        obtain ⟨b, hb1, rfl⟩ := hv
        obtain ⟨E, hw, he⟩ := ha_cell_at hr hx hb1
        obtain ⟨f, rfl, hf⟩ := he
        refine va_iast hexec hb hK hr.2.2.2.2.2.1 hr.2.2.2.2.2.2.1 hr.2.2.2.2.2.2.2.1 a 0 hw rfl (hs_in_vp hi) hd (fun H1 locs1 hP hD hS => hk _ _ _ _ ex ls _ H1 locs1 cells slots ad _ (hr.put hx hw rfl ⟨_, rfl, fun q => ?_⟩ hst3 hP hD hS))
        unfold ha_ai
        rw [ha_asc_cons]
        by_cases hc : q = i.toNatClampNeg
        · simp [upd, hc]
        · simp only [upd, if_neg hc]
          exact hf q
    · cases ex
  · cases ex
theorem ha_s_aastore {D : va_G} {cA : Nat → ClassId} {A : Nat → Prop} {p : Program} {l : Launch} {e : Env} {R : Room} {s : State} {m : MethodId} {args : Array Value} {below : List Frame} {meth : Method} {c : Code} {own : Nat} {cc : ByteArray} {nL c0 s0 : Nat} {aP : List Nat} {Q : State → Prop} (C : ha_Ctx D cA A p R s m args c own cc nL)   {ρ : Type} {call : ha_C} {k done : ha_T ρ} {res : ρ} {pc n : Nat} {ops : List Nat} {mk : List Bool} {L : ha_L} {st : List ha_V} {h : ha_H} (hd : decode cc pc = .ok (.aastore, n)) (hok : ha_okr own pc (.aastore, n, ops, mk) = true) (ex : ha_step call k done (.aastore, n, ops, mk) pc L st h = some res) (hk : ∀ pc' L' st' h', k pc' L' st' h' = some res → ha_WS D cA A p l e R s m args below meth c nL c0 s0 aP Q pc' L' st' h') : ha_WS D cA A p l e R s m args below meth c nL c0 s0 aP Q pc L st h := by
  obtain ⟨hexec, hb, -, hown, hts, hK, hA, hAO⟩ := C
  unfold ha_step at ex
  dsimp only at ex
  have hn : n = 1 := Nat.eq_of_beq_eq_true hok
  subst hn
  split at ex
  · rename_i b i a st0
    split at ex
    · rename_i N wr fs hx hx2
      unfold hs_if at ex
      cases hi : hs_in i N with
      | false => rw [hi] at ex; cases ex
      | true =>
        rw [hi] at ex
        dsimp only at ex
        intro ls xs H locs cells slots ad ws hr
        obtain ⟨y, xs', rfl, hv, hst⟩ := hr.2.2.1.cons
        obtain ⟨v, hv1, rfl⟩ := hv
        obtain ⟨y, xs', rfl, hv, hst2⟩ := hst.cons
        cases hv
        obtain ⟨y, xs', rfl, hv, hst3⟩ := hst2.cons
        obtain ⟨aa, hb1, rfl⟩ := hv
        obtain ⟨E, hw, he⟩ := ha_cell_at hr hx hb1
        obtain ⟨f, rfl, hf⟩ := he
        obtain ⟨E2, hw2, he2⟩ := ha_cell_at hr hx2 hv1
        obtain ⟨vs, rfl, hvs⟩ := he2
        refine va_astq hexec hb hK hr.2.2.2.2.2.1 hr.2.2.2.2.2.2.1 hr.2.2.2.2.2.2.2.1 a 3 b 6 hw (r := (RX6, TX6, 13)) rfl hw2 rfl (hs_in_vp hi) hd (fun H1 locs1 hP hD hS => hk _ _ _ _ ex ls _ H1 locs1 cells slots ad _ (hr.put hx hw rfl ⟨_, rfl, fun q => ?_⟩ hst3 hP hD hS))
        unfold ha_fr
        rw [ha_asc_cons]
        by_cases hc : q = i.toNatClampNeg
        · rw [if_pos hc, hc, va_up_self]
          exact ⟨v, hv1, rfl⟩
        · rw [if_neg hc, va_up_ne _ _ hc]
          exact hf q
    · cases ex
  · cases ex
theorem ha_s_newarray_int {D : va_G} {cA : Nat → ClassId} {A : Nat → Prop} {p : Program} {l : Launch} {e : Env} {R : Room} {s : State} {m : MethodId} {args : Array Value} {below : List Frame} {meth : Method} {c : Code} {own : Nat} {cc : ByteArray} {nL c0 s0 : Nat} {aP : List Nat} {Q : State → Prop} (C : ha_Ctx D cA A p R s m args c own cc nL) (hAC : (Cond.arrayClass .int).before args s = true) {ρ : Type} {call : ha_C} {k done : ha_T ρ} {res : ρ} {pc n : Nat} {ops : List Nat} {mk : List Bool} {L : ha_L} {st : List ha_V} {h : ha_H} (hm : ∀ pc' L' st' h', k pc' L' st' h' = some res → h'.length ≤ R.cells + c0 ∧ ha_cost h' ≤ R.slots + s0) (hd : decode cc pc = .ok (.newarray .int, n)) (hok : ha_okr own pc (.newarray .int, n, ops, mk) = true) (ex : ha_step call k done (.newarray .int, n, ops, mk) pc L st h = some res) (hk : ∀ pc' L' st' h', k pc' L' st' h' = some res → ha_WS D cA A p l e R s m args below meth c nL c0 s0 aP Q pc' L' st' h') : ha_WS D cA A p l e R s m args below meth c nL c0 s0 aP Q pc L st h := by
  obtain ⟨hexec, hb, -, hown, hts, hK, hA, hAO⟩ := C
  unfold ha_step at ex
  dsimp only [ha_aty] at ex
  have hn : n = 2 := Nat.eq_of_beq_eq_true hok
  subst hn
  split at ex
  · rename_i N st0 ty hty
    cases hty
    unfold hs_if at ex
    cases hi : (hs_in N 4000 && Nat.blt h.length 500) with
    | false => rw [hi] at ex; cases ex
    | true =>
      rw [hi] at ex
      dsimp only at ex
      simp only [Bool.and_eq_true] at hi
      have h5 := hs_blt hi.2
      have h4 := hs_in_lt hi.1
      have h3 : ¬ N < 0 := fun q => (hs_in_vp hi.1) (Or.inl q)
      intro ls xs H locs cells slots ad ws hr
      obtain ⟨y, xs', rfl, hv, hst⟩ := hr.2.2.1.cons
      cases hv
      have hcs := hr.2.2.2.2.2.2.2.2
      have hv0 : ∀ cA : ClassId, vp_cell cA (N.toNatClampNeg, .inl (fun _ => 0)) = arrV cA N.toNatClampNeg (fun _ => defaultValue .int) := fun _ => rfl
      have hB : N.toNatClampNeg * componentBytes .int ≤ 536870912 := by
        have hb4 : componentBytes .int = 4 := rfl
        rw [hb4]
        omega
      have hm1 := hm _ _ _ _ ex
      rw [List.length_append, List.length_singleton, ha_cost_app] at hm1
      simp only [ha_co] at hm1
      have hc1 : cells + 1 ≤ R.cells := by omega
      have hs1 : slots + N.toNatClampNeg ≤ R.slots := by omega
      refine va_newa (atype := .int) (ty := .int) (N' := N.toNatClampNeg) hexec hb hAC rfl hK hr.2.2.2.2.2.1 hr.2.2.2.2.2.2.1 hr.2.2.2.2.2.2.2.1 hA (a0 := (N.toNatClampNeg, .inl (fun _ => 0))) hv0 h3 rfl hB hc1 hs1 hd (fun q cA' H1 hK' hP hD hS => ?_)
      have e1 : va_RA s cA' .int := (hK'.2 4 (cA', .int) rfl).2
      have e2 : va_RA s (cA 0) .int := (hK.2 0 (cA 0, .int) rfl).2
      have e3 : cA' = cA 0 := Option.some.inj (e1.symm.trans e2)
      subst e3
      exact hk _ _ _ _ ex ls _ H1 locs _ _ _ _ (hr.push h5 rfl (Nat.le_of_lt h4) ⟨_, rfl, fun _ => rfl⟩ hst hP hD hS)
  · cases ex
theorem ha_s_newarray_long {D : va_G} {cA : Nat → ClassId} {A : Nat → Prop} {p : Program} {l : Launch} {e : Env} {R : Room} {s : State} {m : MethodId} {args : Array Value} {below : List Frame} {meth : Method} {c : Code} {own : Nat} {cc : ByteArray} {nL c0 s0 : Nat} {aP : List Nat} {Q : State → Prop} (C : ha_Ctx D cA A p R s m args c own cc nL) (hAC : (Cond.arrayClass .long).before args s = true) {ρ : Type} {call : ha_C} {k done : ha_T ρ} {res : ρ} {pc n : Nat} {ops : List Nat} {mk : List Bool} {L : ha_L} {st : List ha_V} {h : ha_H} (hm : ∀ pc' L' st' h', k pc' L' st' h' = some res → h'.length ≤ R.cells + c0 ∧ ha_cost h' ≤ R.slots + s0) (hd : decode cc pc = .ok (.newarray .long, n)) (hok : ha_okr own pc (.newarray .long, n, ops, mk) = true) (ex : ha_step call k done (.newarray .long, n, ops, mk) pc L st h = some res) (hk : ∀ pc' L' st' h', k pc' L' st' h' = some res → ha_WS D cA A p l e R s m args below meth c nL c0 s0 aP Q pc' L' st' h') : ha_WS D cA A p l e R s m args below meth c nL c0 s0 aP Q pc L st h := by
  obtain ⟨hexec, hb, -, hown, hts, hK, hA, hAO⟩ := C
  unfold ha_step at ex
  dsimp only [ha_aty] at ex
  have hn : n = 2 := Nat.eq_of_beq_eq_true hok
  subst hn
  split at ex
  · rename_i N st0 ty hty
    cases hty
    unfold hs_if at ex
    cases hi : (hs_in N 4000 && Nat.blt h.length 500) with
    | false => rw [hi] at ex; cases ex
    | true =>
      rw [hi] at ex
      dsimp only at ex
      simp only [Bool.and_eq_true] at hi
      have h5 := hs_blt hi.2
      have h4 := hs_in_lt hi.1
      have h3 : ¬ N < 0 := fun q => (hs_in_vp hi.1) (Or.inl q)
      intro ls xs H locs cells slots ad ws hr
      obtain ⟨y, xs', rfl, hv, hst⟩ := hr.2.2.1.cons
      cases hv
      have hcs := hr.2.2.2.2.2.2.2.2
      have hv0 : ∀ cA : ClassId, vp_cell cA (N.toNatClampNeg, .inr (.inl (fun _ => 0))) = arrV cA N.toNatClampNeg (fun _ => defaultValue .long) := fun _ => rfl
      have hB : N.toNatClampNeg * componentBytes .long ≤ 536870912 := by
        have hb4 : componentBytes .long = 8 := rfl
        rw [hb4]
        omega
      have hm1 := hm _ _ _ _ ex
      rw [List.length_append, List.length_singleton, ha_cost_app] at hm1
      simp only [ha_co] at hm1
      have hc1 : cells + 1 ≤ R.cells := by omega
      have hs1 : slots + N.toNatClampNeg ≤ R.slots := by omega
      refine va_newa (atype := .long) (ty := .long) (N' := N.toNatClampNeg) hexec hb hAC rfl hK hr.2.2.2.2.2.1 hr.2.2.2.2.2.2.1 hr.2.2.2.2.2.2.2.1 hA (a0 := (N.toNatClampNeg, .inr (.inl (fun _ => 0)))) hv0 h3 rfl hB hc1 hs1 hd (fun q cA' H1 hK' hP hD hS => ?_)
      have e1 : va_RA s cA' .long := (hK'.2 4 (cA', .long) rfl).2
      have e2 : va_RA s (cA 1) .long := (hK.2 1 (cA 1, .long) rfl).2
      have e3 : cA' = cA 1 := Option.some.inj (e1.symm.trans e2)
      subst e3
      exact hk _ _ _ _ ex ls _ H1 locs _ _ _ _ (hr.push h5 rfl (Nat.le_of_lt h4) rfl hst hP hD hS)
  · cases ex
theorem ha_s_newarray_boolean {D : va_G} {cA : Nat → ClassId} {A : Nat → Prop} {p : Program} {l : Launch} {e : Env} {R : Room} {s : State} {m : MethodId} {args : Array Value} {below : List Frame} {meth : Method} {c : Code} {own : Nat} {cc : ByteArray} {nL c0 s0 : Nat} {aP : List Nat} {Q : State → Prop} (C : ha_Ctx D cA A p R s m args c own cc nL) (hAC : (Cond.arrayClass .boolean).before args s = true) {ρ : Type} {call : ha_C} {k done : ha_T ρ} {res : ρ} {pc n : Nat} {ops : List Nat} {mk : List Bool} {L : ha_L} {st : List ha_V} {h : ha_H} (hm : ∀ pc' L' st' h', k pc' L' st' h' = some res → h'.length ≤ R.cells + c0 ∧ ha_cost h' ≤ R.slots + s0) (hd : decode cc pc = .ok (.newarray .boolean, n)) (hok : ha_okr own pc (.newarray .boolean, n, ops, mk) = true) (ex : ha_step call k done (.newarray .boolean, n, ops, mk) pc L st h = some res) (hk : ∀ pc' L' st' h', k pc' L' st' h' = some res → ha_WS D cA A p l e R s m args below meth c nL c0 s0 aP Q pc' L' st' h') : ha_WS D cA A p l e R s m args below meth c nL c0 s0 aP Q pc L st h := by
  obtain ⟨hexec, hb, -, hown, hts, hK, hA, hAO⟩ := C
  unfold ha_step at ex
  dsimp only [ha_aty] at ex
  have hn : n = 2 := Nat.eq_of_beq_eq_true hok
  subst hn
  split at ex
  · rename_i N st0 ty hty
    cases hty
    unfold hs_if at ex
    cases hi : (hs_in N 4000 && Nat.blt h.length 500) with
    | false => rw [hi] at ex; cases ex
    | true =>
      rw [hi] at ex
      dsimp only at ex
      simp only [Bool.and_eq_true] at hi
      have h5 := hs_blt hi.2
      have h4 := hs_in_lt hi.1
      have h3 : ¬ N < 0 := fun q => (hs_in_vp hi.1) (Or.inl q)
      intro ls xs H locs cells slots ad ws hr
      obtain ⟨y, xs', rfl, hv, hst⟩ := hr.2.2.1.cons
      cases hv
      have hcs := hr.2.2.2.2.2.2.2.2
      have hv0 : ∀ cA : ClassId, vp_cell cA (N.toNatClampNeg, .inl (fun _ => 0)) = arrV cA N.toNatClampNeg (fun _ => defaultValue .boolean) := fun _ => rfl
      have hB : N.toNatClampNeg * componentBytes .boolean ≤ 536870912 := by
        have hb4 : componentBytes .boolean = 1 := rfl
        rw [hb4]
        omega
      have hm1 := hm _ _ _ _ ex
      rw [List.length_append, List.length_singleton, ha_cost_app] at hm1
      simp only [ha_co] at hm1
      have hc1 : cells + 1 ≤ R.cells := by omega
      have hs1 : slots + N.toNatClampNeg ≤ R.slots := by omega
      refine va_newa (atype := .boolean) (ty := .boolean) (N' := N.toNatClampNeg) hexec hb hAC rfl hK hr.2.2.2.2.2.1 hr.2.2.2.2.2.2.1 hr.2.2.2.2.2.2.2.1 hA (a0 := (N.toNatClampNeg, .inl (fun _ => 0))) hv0 h3 rfl hB hc1 hs1 hd (fun q cA' H1 hK' hP hD hS => ?_)
      have e1 : va_RA s cA' .boolean := (hK'.2 4 (cA', .boolean) rfl).2
      have e2 : va_RA s (cA 2) .boolean := (hK.2 2 (cA 2, .boolean) rfl).2
      have e3 : cA' = cA 2 := Option.some.inj (e1.symm.trans e2)
      subst e3
      exact hk _ _ _ _ ex ls _ H1 locs _ _ _ _ (hr.push h5 rfl (Nat.le_of_lt h4) rfl hst hP hD hS)
  · cases ex
