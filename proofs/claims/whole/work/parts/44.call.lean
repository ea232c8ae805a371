/-! ===== calls ===== -/
theorem hs_ckm_all {y : Nat} (h : y < 267) : hs_ckm y = true := by
  have key : ∀ i : Nat, (List.range 20).all (fun k => hs_ckm (20 * i + k) || decide (267 ≤ 20 * i + k)) = true → y / 20 = i → hs_ckm y = true := by
    intro i hi e
    have := List.all_eq_true.mp hi (y % 20) (List.mem_range.mpr (Nat.mod_lt _ (by omega)))
    rw [show 20 * i + y % 20 = y by omega] at this
    simpa [show ¬ 267 ≤ y by omega] using this
  rcases (show y / 20 = 0 ∨ y / 20 = 1 ∨ y / 20 = 2 ∨ y / 20 = 3 ∨ y / 20 = 4 ∨ y / 20 = 5 ∨ y / 20 = 6 ∨ y / 20 = 7 ∨ y / 20 = 8 ∨ y / 20 = 9 ∨ y / 20 = 10 ∨ y / 20 = 11 ∨ y / 20 = 12 ∨ y / 20 = 13 by omega) with e | e | e | e | e | e | e | e | e | e | e | e | e | e
  · exact key 0 hs_ckm_0 e
  · exact key 1 hs_ckm_1 e
  · exact key 2 hs_ckm_2 e
  · exact key 3 hs_ckm_3 e
  · exact key 4 hs_ckm_4 e
  · exact key 5 hs_ckm_5 e
  · exact key 6 hs_ckm_6 e
  · exact key 7 hs_ckm_7 e
  · exact key 8 hs_ckm_8 e
  · exact key 9 hs_ckm_9 e
  · exact key 10 hs_ckm_10 e
  · exact key 11 hs_ckm_11 e
  · exact key 12 hs_ckm_12 e
  · exact key 13 hs_ckm_13 e
/-- what the tables say of a method -/
theorem hs_meth {y : Nat} (h : y < 267) : Cond.code (hs_nm y).1 (hs_nm y).2.1 (hs_nm y).2.2.1 (hs_nm y).2.2.2 ∈ hs_GW ∧ (hs_nm y).1.cls = hs_own (hs_mw y).1 ∧ ((hs_mw y).2.2.2.1 = 1 → Cond.static (hs_nm y).1 ∈ hs_GW) ∧ ((hs_mw y).2.2.2.1 = 0 → Cond.instanceMethod (hs_nm y).1 ∈ hs_GW ∧ Cond.selects (hs_nm y).1.cls (hs_nm y).1 (hs_nm y).1 ∈ hs_GW) ∧ Cond.initialized (hs_nm y).1.cls ∈ hs_GW ∧ plainFor (hs_nm y).1 = true ∧ ((hs_nm y).1.cls ≠ "java/lang/invoke/MethodHandle" ∧ (hs_nm y).1.cls ≠ "java/lang/invoke/VarHandle") ∧ (hs_nm y).2.2.1 = (hs_prog y).2.1 ∧ (hs_nm y).2.2.1 ≤ 29 := by
  have hc := hs_ckm_all h
  simp only [hs_ckm, Bool.and_eq_true, decide_eq_true_eq] at hc
  obtain ⟨h1, h2, h3, h4, h5, h6, h7, h8⟩ := hc
  refine ⟨?_, h2, ?_, ?_, hs_is_in h4, h5, h6, h7, h8⟩
  · unfold hs_isC at h1
    cases hx : lw_tbl[(hs_mw y).2.1]? with
    | none => rw [hx] at h1; cases h1
    | some w =>
      rw [hx] at h1
      split at h1
      · rename_i n b ml r e
        cases e
        simp only [Bool.and_eq_true, decide_eq_true_eq] at h1
        obtain ⟨e1, e2, e3⟩ := h1
        have hb : (hs_nm y).2.1 = b := by
          show hs_code (hs_mw y).2.1 = b
          unfold hs_code
          rw [hx]
        rw [hb, ← e1, ← e2, ← e3]
        exact List.mem_filter.mpr ⟨List.mem_of_getElem? hx, rfl⟩
      · cases h1
  · intro e
    rw [e] at h3
    exact hs_is_in h3
  · intro e
    rw [e] at h3
    simp only [Bool.and_eq_true] at h3
    exact ⟨hs_is_in h3.1, hs_is_in h3.2⟩
theorem hs_good {y : Nat} (h : y < 267) : GoodIn hs_GW (hs_wsl y) := by
  intro w hw
  rcases List.mem_cons.mp hw with e | hw
  · rw [e]
    exact ⟨(hs_meth h).1, good_of_word (hs_in_good (hs_meth h).1)⟩
  · exact ⟨hw, good_of_word (hs_in_good hw)⟩
theorem hs_npar {y : Nat} (h : y < 267) : (parseMethodDescriptor (hs_nm y).1.desc).map (fun d => d.parameters.length) = some (hs_np y) := by
  have := List.all_eq_true.mp hs_np_ok y (List.mem_range.mpr h)
  simpa using this
theorem hs_pop_spec {ρ : Type} {r : ρ} : ∀ (n : Nat) (st as : List hs_V) (K : List hs_V → List hs_V → Option ρ), hs_pop n st as K = some r → ∃ p st', st = p ++ st' ∧ p.length = n ∧ K (p.reverse ++ as) st' = some r
  | 0, st, as, K, h => ⟨[], st, rfl, rfl, h⟩
  | n + 1, [], as, K, h => by cases h
  | n + 1, v :: st, as, K, h => by
    obtain ⟨p, st', h1, h2, h3⟩ := hs_pop_spec n st (v :: as) K h
    refine ⟨v :: p, st', by rw [h1]; rfl, by simp [h2], ?_⟩
    rw [List.reverse_cons, List.append_assoc]
    exact h3
theorem hs_cats_enc (g : hs_G) : ∀ (st : List hs_V), ((st.map (hs_enc g)).map fun v => v.category).sum = hs_cats st
  | [] => rfl
  | v :: st => by
    simp only [List.map_cons, List.sum_cons, hs_enc_cat, hs_cats_enc g st, hs_cats]
theorem hs_Sf_warm {g : hs_G} {s U : State} {H : Heap} {locs : List Loc} (h : hs_Sf g s) (hS : va_S (hs_gP g) s.heap H locs) (hU : U.heap = H) (hW : s.WarmedH U.vm) : hs_Sf g U := by
  obtain ⟨h1, h2, h3, ⟨h4, h5, h6, h6'⟩, h7, h8, h9⟩ := h
  have hkeep : ∀ a : Nat, a < s.heap.size → ¬ hs_gP g a → U.heap[a]? = s.heap[a]? := by rw [hU]; exact hS.2.1
  exact ⟨va_K.moved hW.alike h1, va_Nw.warmM hW h2, va_Nw.warmM hW h3, ⟨fun q hq => vk_R.warm hW (h4 q hq), vk_S.moved hW.alike (vk_S.kept h5 hkeep), va_Z.moved hW.alike (va_Z.kept h6 hkeep), va_Zq.moved hW.alike (va_Zq.kept h6' hkeep)⟩, va_X.moved hW.alike (va_X.kept h7 (hkeep _ h8 h9)), Nat.lt_of_lt_of_le h8 (by rw [hU]; exact hS.1), h9⟩
theorem hs_Sf_calling {g : hs_G} {U : State} (f : JFrame) (mk : MethodId) (a : Array Value) (h : hs_Sf g U) : hs_Sf g (U.calling f mk a) := by
  obtain ⟨h1, h2, h3, ⟨h4, h5, h6, h6'⟩, h7, h8, h9⟩ := h
  have hv : U.vm.Alike (U.calling f mk a).vm := Vm.Alike.refl U.vm
  exact ⟨va_K.moved hv h1, va_Nw.same rfl rfl h2, va_Nw.same rfl rfl h3, ⟨fun q hq => vk_R.same rfl (h4 q hq), vk_S.moved hv h5, va_Z.moved hv h6, va_Zq.moved hv h6'⟩, va_X.moved hv h7, h8, h9⟩
theorem hs_blind {g : hs_G} {as : List hs_V} {μ : hs_M} : FrameBlind (hs_Pc g as μ) := by
  intro a U f mk h
  obtain ⟨h1, h2, h3⟩ := h
  exact ⟨h1, hs_Sf_calling f mk a h2, h3⟩
/-- behind a call: the world as it says, nothing of others changed -/
theorem hs_back {g : hs_G} {p : Program} {l : Launch} {e : Env} {R : Room} {s : State} {m : MethodId} {args : Array Value} {below : List Frame} {meth : Method} {c : Code} {cells slots nL : Nat} {Q : State → Prop} {pc : Nat} {L : hs_L} {st0 st : List hs_V} {stv : List Value} {μ μ' : hs_M} {ls : Array Slot} {H : Heap} {locs : List Loc} {r : Option hs_V} {a : Array Value}
    (hr : hs_rel g nL s L st0 μ ls H locs) (hst : ∀ v ∈ st, hs_ok v) (hrv : ∀ v, r = some v → hs_ok v) (run : va_Run p l e R s m args below meth c H locs cells slots 0 0 (F0 m pc ls stv) (st.map (hs_enc g)) (hs_Qc g r μ' a) (hs_gP g))
    (hk : hs_WS g p l e R s m args below meth c cells slots nL Q (pc + 3) L (r.toList ++ st) μ') : W p l e R s m args below meth c H locs cells slots Q (F0 m pc ls stv) := by
  intro T hT X
  obtain ⟨v, st₀, t, T', Lc, h0, X', hL, e1, e2, ⟨hv, hw, hz, hk1⟩, stp⟩ := run T hT X
  cases hv
  rw [h0] at hz hk1
  have hrel : hs_rel g nL s L (r.toList ++ st) μ' ls T'.heap (locs ++ Lc) := by
    refine ⟨hr.1, hr.2.1, hr.2.2.1, ?_, by rw [e1]; exact hw, Nat.le_trans hr.2.2.2.2.2.1 (by rw [e1]; exact hz), ?_, ?_⟩
    · intro w hw
      rcases List.mem_append.mp hw with h | h
      · exact hrv w (by simpa using h)
      · exact hst w h
    · intro q h1 h2
      rw [e1, hk1 q (Nat.lt_of_lt_of_le h1 hr.2.2.2.2.2.1) h2]
      exact hr.2.2.2.2.2.2.1 q h1 h2
    · intro q hq
      rcases List.mem_append.mp hq with h | h
      · exact hr.2.2.2.2.2.2.2 q h
      · exact hL q h
  have hgo := hk ls T'.heap (locs ++ Lc) hrel
  have hstk : (r.toList ++ st).map (hs_enc g) = (r.map (hs_enc g)).toList ++ st.map (hs_enc g) := by
    cases r <;> simp
  rw [hstk] at hgo
  obtain ⟨t2, a1, b1⟩ := hgo T' rfl X'
  exact ⟨t2, stp t2 a1, b1⟩
theorem hs_args_ok {p st' : List hs_V} (h : ∀ v ∈ p ++ st', hs_ok v) : ∀ v ∈ p.reverse, hs_ok v := fun v hv => h v (List.mem_append_left _ (List.mem_reverse.mp hv))
theorem hs_ml2 : ∀ q ∈ hs_ml, q.2.2.2.1 = 2 → ((q.1 = 6 ∧ q.2.1 = 62) ∨ (q.1 = 8 ∧ q.2.1 = 52)) ∧ (hs_nm q.2.2.1).1 = hs_inB := by decide +kernel
theorem hs_w_m0 {own idx y : Nat} (h : hs_any hs_ml own idx y 0 = true) : Cond.methodLink (hs_own own) idx (hs_nm y).1 ∈ hs_GW := by
  obtain ⟨i, hi⟩ := hs_any_mem h
  exact hs_is_in (List.all_eq_true.mp hs_ml_ok _ hi)
theorem hs_w_m1 {own idx y : Nat} (h : hs_any hs_ml own idx y 1 = true) : Cond.methodLink (hs_own own) idx (hs_nm y).1 ∈ hs_GW := by
  obtain ⟨i, hi⟩ := hs_any_mem h
  exact hs_is_in (List.all_eq_true.mp hs_ml_ok _ hi)
/-- a static call of a method of the machine -/
theorem hs_callS {g : hs_G} {p : Program} {l : Launch} {e : Env} {R : Room} {s : State} {m : MethodId} {args : Array Value} {below : List Frame} {meth : Method} {c : Code} {cells slots own : Nat} {cc : ByteArray} {nL : Nat} {call : hs_C} {Q : State → Prop} (C : hs_Ctx g p l R s m args c cells slots own cc nL call) {idx pc y : Nat} {L : hs_L} {pp st : List hs_V} {μ μ' : hs_M} {r : Option hs_V}
    (hd : decode cc pc = .ok (.invokestatic idx, 3)) (hy : y < 267) (hl : hs_any hs_ml own idx y 1 = true ∨ hs_any hs_ml own idx y 2 = true) (hn : pp.length = hs_np y) (hst : (hs_mw y).2.2.2.1 = 1) (h8 : hs_cats st ≤ 8) (hc : call y pp.reverse μ = some (r, μ')) (hr0 : r = none → (hs_prog y).2.2 = 0) (hrv : ∀ v, r = some v → hs_ok v)
    (hk : hs_WS g p l e R s m args below meth c cells slots nL Q (pc + 3) L (r.toList ++ st) μ') : hs_WS g p l e R s m args below meth c cells slots nL Q pc L (pp ++ st) μ := by
  obtain ⟨hexec, hb, hml, hown, hts, hSf, hcs, -, rm, hrc, hrs, hrf, hrl, hco⟩ := C
  intro ls H locs hr
  have hM := hco y pp.reverse μ r μ' hy hc hr0 (hs_args_ok hr.2.2.2.1)
  have hm := hs_meth hy
  have hp : PreS s H (hs_Pc g pp.reverse μ) (pp.reverse.map (hs_enc g)) := ⟨hs_blind, fun U hU hW => ⟨rfl, hs_Sf_warm hSf hr.2.2.2.2.2 hU hW, by rw [hU]; exact hr.2.2.2.2.1⟩⟩
  have hstk : (pp ++ st).map (hs_enc g) = (pp.reverse.map (hs_enc g)).reverse ++ st.map (hs_enc g) := by
    rw [List.map_append, List.map_reverse, List.reverse_reverse]
  have h8' : 2 * (F0 m pc ls ((pp ++ st).map (hs_enc g))).monitorRoom + ((st.map (hs_enc g)).map fun v => v.category).sum ≤ 8 := lv_room (by rw [hs_cats_enc]; exact h8)
  have hlen : (pp.reverse.map (hs_enc g)).length = hs_np y := by rw [List.length_map, List.length_reverse, hn]
  have hdd : (hs_nm y).1.cls ≠ "java/lang/invoke/MethodHandle" ∧ (hs_nm y).1.cls ≠ "java/lang/invoke/VarHandle" ∧ (parseMethodDescriptor (hs_nm y).1.desc).map (fun d => d.parameters.length) = some (hs_np y) := ⟨hm.2.2.2.2.2.2.1.1, hm.2.2.2.2.2.2.1.2, hs_npar hy⟩
  have hroom : rm.frames + 1 ≤ R.frames ∧ 8 + ((hs_nm y).2.2.1 + 11) + rm.locals ≤ R.locals := ⟨hrf, by have := hm.2.2.2.2.2.2.2.2; omega⟩
  refine hs_back (a := (pp.reverse.map (hs_enc g)).toArray) hr (fun v hv => hr.2.2.2.1 v (List.mem_append_right _ hv)) hrv ?_ hk
  rcases hl with hl | hl
  · exact va_runS (Ts := hs_GW) ⟨hexec, hb, hml, hown, hts⟩ hM ⟨callB_of (hs_np y) hts (hs_good hy) rfl hrc hrs (hts _ hm.2.2.2.2.1) (hts _ (hs_w_m1 hl)) hdd hroom, hts _ (hm.2.2.1 hst)⟩ hp rfl hlen hr.1.1 hstk h8' hd ⟨by omega, by omega⟩
  · obtain ⟨i, hi⟩ := hs_any_mem hl
    obtain ⟨hw, hnm⟩ := hs_ml2 _ hi rfl
    dsimp only at hw hnm
    have hnw : va_Nw (.methodLinkNest (hs_own own) idx (hs_nm y).1 "HeavierServes") s := by
      rw [hnm]
      rcases hw with ⟨a, b⟩ | ⟨a, b⟩
      · rw [a, b]; exact hSf.2.1
      · rw [a, b]; exact hSf.2.2.1
    exact va_runSN (Ts := hs_GW) ⟨hexec, hb, hml, hown, hts⟩ hM ⟨va_cnB (hs_np y) hts (hs_good hy) rfl hrc hrs hnw (hts _ hm.2.2.2.2.1) hdd hroom, hts _ (hm.2.2.1 hst), trivial⟩ hp rfl hlen hr.1.1 hstk h8' hd ⟨by omega, by omega⟩
/-- a virtual call of a method of the machine -/
theorem hs_callV {g : hs_G} {p : Program} {l : Launch} {e : Env} {R : Room} {s : State} {m : MethodId} {args : Array Value} {below : List Frame} {meth : Method} {c : Code} {cells slots own : Nat} {cc : ByteArray} {nL : Nat} {call : hs_C} {Q : State → Prop} (C : hs_Ctx g p l R s m args c cells slots own cc nL call) {idx pc y κ j : Nat} {L : hs_L} {pp st as : List hs_V} {μ μ' : hs_M} {r : Option hs_V}
    (hd : decode cc pc = .ok (.invokevirtual idx, 3)) (hy : y < 267) (hl : hs_any hs_ml own idx y 0 = true) (hn : pp.length = hs_np y + 1) (hst : (hs_mw y).2.2.2.1 = 0) (hκ : κ = (hs_mw y).1) (h13 : κ < 13) (has : pp.reverse = vR κ j :: as) (h8 : hs_cats st ≤ 8) (hc : call y pp.reverse μ = some (r, μ')) (hr0 : r = none → (hs_prog y).2.2 = 0) (hrv : ∀ v, r = some v → hs_ok v)
    (hk : hs_WS g p l e R s m args below meth c cells slots nL Q (pc + 3) L (r.toList ++ st) μ') : hs_WS g p l e R s m args below meth c cells slots nL Q pc L (pp ++ st) μ := by
  obtain ⟨hexec, hb, hml, hown, hts, hSf, hcs, -, rm, hrc, hrs, hrf, hrl, hco⟩ := C
  intro ls H locs hr
  have hoks := hs_args_ok hr.2.2.2.1
  have hM := hco y pp.reverse μ r μ' hy hc hr0 hoks
  have hm := hs_meth hy
  rw [has] at hM hoks
  have hppe : pp = as.reverse ++ [vR κ j] := by
    have := congrArg List.reverse has
    rw [List.reverse_reverse, List.reverse_cons] at this
    exact this
  have hj : j < hs_num κ := hs_ok_obj (hoks _ List.mem_cons_self) (by omega)
  obtain ⟨q, hq, hw⟩ := hs_ws_get g μ (show κ < 70 by omega) hj
  rw [hs_cell_obj h13] at hw
  have hcls : hs_cR κ = (hs_nm y).1.cls := by
    rw [hm.2.1, ← hκ]
    exact hs_c13 (P := fun κ => hs_cR κ = hs_own κ) rfl rfl rfl rfl rfl rfl rfl rfl rfl rfl rfl rfl rfl h13
  have hrecv := va_recv hSf.1 hr.2.2.2.2.1.1 (hs_clas_at h13) hw
  rw [show ((hs_cR κ, hs_cT κ, hs_cN κ) : vw_C).1 = (hs_nm y).1.cls from hcls] at hrecv
  have hp : PreV s H (hs_nm y).1.cls (hs_gA g κ j) (hs_Pc g (vR κ j :: as) μ) (as.map (hs_enc g)) := ⟨hs_blind, hrecv, fun U hU hW => ⟨rfl, hs_Sf_warm hSf hr.2.2.2.2.2 hU hW, by rw [hU]; exact hr.2.2.2.2.1⟩⟩
  have hstk : (pp ++ st).map (hs_enc g) = (as.map (hs_enc g)).reverse ++ .ref (hs_gA g κ j) :: st.map (hs_enc g) := by
    rw [hppe, List.map_append, List.map_append, List.map_reverse, List.append_assoc]
    rfl
  have h8' : 2 * (F0 m pc ls ((pp ++ st).map (hs_enc g))).monitorRoom + ((st.map (hs_enc g)).map fun v => v.category).sum ≤ 8 := lv_room (by rw [hs_cats_enc]; exact h8)
  have hlen : (as.map (hs_enc g)).length = hs_np y := by
    have := congrArg List.length has
    rw [List.length_reverse, hn, List.length_cons] at this
    rw [List.length_map]
    omega
  have hdd : (hs_nm y).1.cls ≠ "java/lang/invoke/MethodHandle" ∧ (hs_nm y).1.cls ≠ "java/lang/invoke/VarHandle" ∧ (parseMethodDescriptor (hs_nm y).1.desc).map (fun d => d.parameters.length) = some (hs_np y) := ⟨hm.2.2.2.2.2.2.1.1, hm.2.2.2.2.2.2.1.2, hs_npar hy⟩
  have hroom : rm.frames + 1 ≤ R.frames ∧ 8 + ((hs_nm y).2.2.1 + 11) + rm.locals ≤ R.locals := ⟨hrf, by have := hm.2.2.2.2.2.2.2.2; omega⟩
  refine hs_back (a := (Value.ref (hs_gA g κ j) :: as.map (hs_enc g)).toArray) hr (fun v hv => hr.2.2.2.1 v (List.mem_append_right _ hv)) hrv ?_ hk
  exact va_runV (Ts := hs_GW) ⟨hexec, hb, hml, hown, hts⟩ hM ⟨callB_of (hs_np y) hts (hs_good hy) rfl hrc hrs (hts _ hm.2.2.2.2.1) (hts _ (hs_w_m0 hl)) hdd hroom, hts _ (hm.2.2.2.1 hst).1, hts _ (hm.2.2.2.1 hst).2⟩ hp rfl hlen hr.1.1 hstk h8' hd ⟨by omega, by omega⟩
