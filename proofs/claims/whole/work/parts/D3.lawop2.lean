/-! ===== the law: the five that may throw ===== -/
theorem hl_cmp (x : Int64) : lg_cmp x x = 0 := by
  unfold lg_cmp
  rw [if_neg (Int64.lt_irrefl (a := x)), if_pos rfl]
theorem hl_up {g : hs_G} {p : Program} {l : Launch} {R : Room} {s : State} {m : MethodId} {args : Array Value} {c : Code} {cells slots own : Nat} {cc : ByteArray} {nL : Nat} {call : hs_C} (C : hs_Ctx g p l R s m args c cells slots own cc nL call) {k n : Nat} (h1 : k ≤ R.cells) (h2 : n ≤ R.slots) : hs_Ctx g p l R s m args c k n own cc nL call := by
  obtain ⟨a1, a2, a3, a4, a5, a6, -, a8, a9⟩ := C
  exact ⟨a1, a2, a3, a4, a5, a6, ⟨h1, h2⟩, a8, a9⟩
/-- the law calls a helper -/
theorem hl_callH {g : hs_G} {p : Program} {l : Launch} {e : Env} {R : Room} {s : State} {m : MethodId} {args : Array Value} {below : List Frame} {meth : Method} {c : Code} {cells slots : Nat} {cc : ByteArray} {nL : Nat} {call : hs_C} {Q : State → Prop} (C : hs_Ctx g p l R s m args c cells slots 13 cc nL call) (hSx : hl_Sx g s) {d idx pc n maxL : Nat} {L : hs_L} {as : List hs_V} {μ μ' : hs_M} {k : Int32} {y : MethodName} {bytes : ByteArray} {hh : List (Nat × Nat × Nat × Nat)}
    (hd : decode cc pc = .ok (.invokestatic idx, 3)) (hcw : Cond.codeWith y bytes maxL (some .int) hh ∈ hs_GW) (hini : Cond.initialized y.cls ∈ hs_GW) (hlk : Cond.methodLink (hs_own 13) idx y ∈ hs_GW) (hst : Cond.static y ∈ hs_GW) (hdd : y.cls ≠ "java/lang/invoke/MethodHandle" ∧ y.cls ≠ "java/lang/invoke/VarHandle" ∧ (parseMethodDescriptor y.desc).map (fun d => d.parameters.length) = some n) (hn : as.length = n) (h29 : maxL ≤ 29)
    (hRf : d + 20 + 1 ≤ R.frames) (hRl : 48 + (48 * d + 800) ≤ R.locals) (hRc : cells + 1 ≤ R.cells ∧ slots + 6 ≤ R.slots) (hM : vx_Met l y (Cond.codeWith y bytes maxL (some .int) hh :: hs_GW) (hl_rmH d) (hl_Pc g as μ) (hs_Qc g (some (vI k)) μ') (fun _ _ _ => False) 1 6 (hs_gP g))
    (hk : hs_WS g p l e R s m args below meth c (cells + 1) (slots + 6) nL Q (pc + 3) L [vI k] μ') : hs_WS g p l e R s m args below meth c cells slots nL Q pc L as.reverse μ := by
  obtain ⟨hexec, hb, hml, hown, hts, hSf, hcs, -⟩ := C
  intro ls H locs hr
  have hp : PreS s H (hl_Pc g as μ) (as.map (hs_enc g)) := ⟨hl_blind, fun U hU hW => ⟨rfl, ⟨hs_Sf_warm hSf hr.2.2.2.2.2 hU hW, by rw [hU]; exact hr.2.2.2.2.1⟩, hl_Sx_warm hSx hr.2.2.2.2.2 hU hW⟩⟩
  have hstk : as.reverse.map (hs_enc g) = (as.map (hs_enc g)).reverse ++ [] := by rw [List.map_reverse, List.append_nil]
  have h8' : 2 * (F0 m pc ls (as.reverse.map (hs_enc g))).monitorRoom + (([] : List Value).map fun v => v.category).sum ≤ 8 := lv_room (by decide)
  have hG : GoodIn hs_GW (Cond.codeWith y bytes maxL (some .int) hh :: hs_GW) := by
    intro w hw
    rcases List.mem_cons.mp hw with e | hw
    · rw [e]
      exact ⟨hcw, good_of_word (hs_in_good hcw)⟩
    · exact ⟨hw, good_of_word (hs_in_good hw)⟩
  have cw : vx_CSW R s args (hs_own 13) idx y bytes maxL (some .int) hh (Cond.codeWith y bytes maxL (some .int) hh :: hs_GW) (hl_rmH d) 1 6 n := by
    refine ⟨⟨rfl, rfl, hRf, Nat.le_trans (Nat.add_le_add_right (show 8 + (maxL + 11) ≤ 48 by omega) _) hRl, pay_in hts hG, List.mem_cons_self⟩, hts _ hcw, hts _ hini, ⟨hdd.1, hdd.2.1⟩, fun sig h => ?_, hts _ hlk, hts _ hst⟩
    have h2 := hdd.2.2
    rw [h] at h2
    exact (Option.some.inj h2).symm
  intro T hT X
  rcases vx_runSX (Ts := hs_GW) (g := F0 m pc ls (as.reverse.map (hs_enc g))) (rest := []) ⟨hexec, hb, hml, hown, hts⟩ hM cw hp rfl (by rw [List.length_map, hn]) hr.1.1 hstk h8' hd hRc T hT X with ⟨v, st₀, t, T', Lc, g0, X', hL, e1, e2, ⟨hv, hw, hz, hk1⟩, stp⟩ | ⟨q, st₀, t, T', Lc, E, ce, g0, X', hL, e1, e2, hF, -⟩
  · cases hv
    rw [g0] at hz hk1
    have hrel : hs_rel g nL s L [vI k] μ' ls T'.heap (locs ++ Lc) := by
      refine ⟨hr.1, hr.2.1, hr.2.2.1, ?_, by rw [e1]; exact hw, Nat.le_trans hr.2.2.2.2.2.1 (by rw [e1]; exact hz), ?_, ?_⟩
      · intro w hw
        rw [List.mem_singleton] at hw
        rw [hw]
        exact trivial
      · intro q h1 h2
        rw [e1, hk1 q (Nat.lt_of_lt_of_le h1 hr.2.2.2.2.2.1) h2]
        exact hr.2.2.2.2.2.2.1 q h1 h2
      · intro q hq
        rcases List.mem_append.mp hq with h | h
        · exact hr.2.2.2.2.2.2.2 q h
        · exact hL q h
    obtain ⟨t2, a1, b1⟩ := hk ls T'.heap (locs ++ Lc) hrel T' rfl X'
    exact ⟨t2, stp t2 a1, b1⟩
  · exact hF.elim
theorem hl_lw_of : Cond.methodLink (hs_own 13) 55 hl_y_of ∈ hs_GW := hs_is_in (i := 1185) (by decide +kernel)
theorem hl_st_of : Cond.static hl_y_of ∈ hs_GW := hs_is_in (i := 1186) (by decide +kernel)
theorem hl_in_of : Cond.initialized hl_y_of.cls ∈ hs_GW := hs_is_in (i := 85) (by decide +kernel)
theorem hl_op_5 {g : hs_G} {p : Program} {l : Launch} {e : Env} {R : Room} {s : State} {m : MethodId} {args : Array Value} {below : List Frame} {meth : Method} {c : Code} {cells slots : Nat} {Q : State → Prop} (C : hs_Ctx g p l R s m args c cells slots 13 code 8 (hs_call 200)) (hSx : hl_Sx g s) (hlt : l.stackTraces = false) (hRf : 300 ≤ R.frames) (hRl : 20000 ≤ R.locals) (hRc : cells + 1 ≤ R.cells ∧ slots + 6 ≤ R.slots) {n : Nat} (hn : n ≤ 512) {E : hx_Env} {t : hx_St} {μ : hs_M} (h : hx_I n E t μ) {i : Nat} (hi : i + 5 ≤ hs_gN g) (hN : hs_gN g ≤ 2560) (hsc : hs_Sc g μ) (hk : ∀ μ2 E2 t2, hx_I (n + 1) E2 t2 μ2 → hs_WS g p l e R s m args below meth c (cells + 1) (slots + 6) 8 Q 1752 (hl_L (nI i)) [] μ2) : hs_WS g p l e R s m args below meth c cells slots 8 Q 353 (hl_L (nI i)) [] μ := by
  have hdec : decode code 367 = .ok (.invokestatic 55, 3) := (hs_at_ok hl_ck (show hs_at hs_klaw 367 = some _ from rfl)).1
  have C' := hl_up C hRc.1 hRc.2
  have a1 := hl_arg hsc (i := i) (k := 1) (by omega) hN
  have a2 := hl_arg hsc (i := i) (k := 2) (by omega) hN
  refine hg_sound C hl_ck (stops := []) 60 353 (hl_L (nI i)) [] μ 367 (hl_L (nI i)) [vR 69 0, vI (hs_gX g (i + 2)), vI (hs_gX g (i + 1)), vR 11 0] μ ?_ ?_
  · show hl_go 200 [] 60 353 (hl_L (nI i)) [] μ = _
    rw [hl_a_5, if_pos (show hs_in (nI i + (1 : Int32)) _ = true from a1.1), if_pos (show hs_in (nI i + (2 : Int32)) _ = true from a2.1), show (μ).1 70 0 (nI i + (1 : Int32)).toNatClampNeg = hs_gX g (i + 1) from a1.2, show (μ).1 70 0 (nI i + (2 : Int32)).toNatClampNeg = hs_gX g (i + 2) from a2.2]
  have hdd : hl_y_of.cls ≠ "java/lang/invoke/MethodHandle" ∧ hl_y_of.cls ≠ "java/lang/invoke/VarHandle" ∧ (parseMethodDescriptor hl_y_of.desc).map (fun d => d.parameters.length) = some 4 := by decide +kernel
  rcases hx_of2 195 h (hs_gX g (i + 1)) (hs_gX g (i + 2)) with ⟨v, μ1, e1, r⟩ | ⟨e1, v, μ2, e2, th, E2, t2, h2⟩
  · obtain ⟨μ2, e2, th, w69, E2, t2, h2⟩ := r v.toInt64
    have e2 : hc_M_of 200 (hs_gX g (i + 1)) (hs_gX g (i + 2)) (hs_wL μ1 69 0 0 v.toInt64) = some (some (vI v), μ2) := e2
    refine hl_callH C hSx (d := 200) (as := [vR 11 0, vI (hs_gX g (i + 1)), vI (hs_gX g (i + 2)), vR 69 0]) (y := hl_y_of) (n := 4) (maxL := 5) hdec hl_c_of hl_in_of hl_lw_of hl_st_of hdd rfl (by decide) (by omega) (by omega) hRc (hl_R_of g l 200 e1) ?_
    refine hl_sc (d := 200) (own := 13) (cc := code) (fun hsc1 => ?_)
    have b1 := hl_arg hsc1 (i := i) (k := 1) (by omega) hN
    have b2 := hl_arg hsc1 (i := i) (k := 2) (by omega) hN
    refine hg_sound C' hl_ck (stops := [1752]) 60 370 (hl_L (nI i)) [vI 0] _ 1752 (hl_L (nI i)) [] μ2 ?_ (hk μ2 E2 t2 h2)
    show hl_go 200 [1752] 60 370 (hl_L (nI i)) [vI 0] (hs_wL μ1 69 0 0 v.toInt64) = _
    rw [hl_b_5, if_pos (show hs_in (nI i + (1 : Int32)) _ = true from b1.1), if_pos (show hs_in (nI i + (2 : Int32)) _ = true from b2.1), show (hs_wL μ1 69 0 0 v.toInt64).1 70 0 (nI i + (1 : Int32)).toNatClampNeg = hs_gX g (i + 1) from b1.2, show (hs_wL μ1 69 0 0 v.toInt64).1 70 0 (nI i + (2 : Int32)).toNatClampNeg = hs_gX g (i + 2) from b2.2, e2, hx_bI, hq_M_thrown, hx_bI, th, if_pos rfl, if_pos rfl, w69, hl_cmp, if_pos rfl]
  · have e2 : hc_M_of 200 (hs_gX g (i + 1)) (hs_gX g (i + 2)) μ = some (some (vI v), μ2) := e2
    refine hl_callH C hSx (d := 199) (as := [vR 11 0, vI (hs_gX g (i + 1)), vI (hs_gX g (i + 2)), vR 69 0]) (y := hl_y_of) (n := 4) (maxL := 5) hdec hl_c_of hl_in_of hl_lw_of hl_st_of hdd rfl (by decide) (by omega) (by omega) hRc (hl_T_of g l hlt 199 e1) ?_
    refine hg_sound C' hl_ck (stops := [1752]) 60 370 (hl_L (nI i)) [vI 1] μ 1752 (hl_L (nI i)) [] μ2 ?_ (hk μ2 E2 t2 h2)
    show hl_go 200 [1752] 60 370 (hl_L (nI i)) [vI 1] μ = _
    rw [hl_b_5, if_pos (show hs_in (nI i + (1 : Int32)) _ = true from a1.1), if_pos (show hs_in (nI i + (2 : Int32)) _ = true from a2.1), show (μ).1 70 0 (nI i + (1 : Int32)).toNatClampNeg = hs_gX g (i + 1) from a1.2, show (μ).1 70 0 (nI i + (2 : Int32)).toNatClampNeg = hs_gX g (i + 2) from a2.2, e2, hx_bI, hq_M_thrown, hx_bI, th, if_pos rfl, if_neg (by decide)]
theorem hl_lw_change : Cond.methodLink (hs_own 13) 64 hl_y_change ∈ hs_GW := hs_is_in (i := 1256) (by decide +kernel)
theorem hl_st_change : Cond.static hl_y_change ∈ hs_GW := hs_is_in (i := 1257) (by decide +kernel)
theorem hl_in_change : Cond.initialized hl_y_change.cls ∈ hs_GW := hs_is_in (i := 85) (by decide +kernel)
theorem hl_op_6 {g : hs_G} {p : Program} {l : Launch} {e : Env} {R : Room} {s : State} {m : MethodId} {args : Array Value} {below : List Frame} {meth : Method} {c : Code} {cells slots : Nat} {Q : State → Prop} (C : hs_Ctx g p l R s m args c cells slots 13 code 8 (hs_call 200)) (hSx : hl_Sx g s) (hlt : l.stackTraces = false) (hRf : 300 ≤ R.frames) (hRl : 20000 ≤ R.locals) (hRc : cells + 1 ≤ R.cells ∧ slots + 6 ≤ R.slots) {n : Nat} (hn : n ≤ 512) {E : hx_Env} {t : hx_St} {μ : hs_M} (h : hx_I n E t μ) {i : Nat} (hi : i + 5 ≤ hs_gN g) (hN : hs_gN g ≤ 2560) (hsc : hs_Sc g μ) (hk : ∀ μ2 E2 t2, hx_I (n + 1) E2 t2 μ2 → hs_WS g p l e R s m args below meth c (cells + 1) (slots + 6) 8 Q 1752 (hl_L (nI i)) [] μ2) : hs_WS g p l e R s m args below meth c cells slots 8 Q 421 (hl_L (nI i)) [] μ := by
  have hdec : decode code 435 = .ok (.invokestatic 64, 3) := (hs_at_ok hl_ck (show hs_at hs_klaw 435 = some _ from rfl)).1
  have C' := hl_up C hRc.1 hRc.2
  have a1 := hl_arg hsc (i := i) (k := 1) (by omega) hN
  have a2 := hl_arg hsc (i := i) (k := 2) (by omega) hN
  refine hg_sound C hl_ck (stops := []) 60 421 (hl_L (nI i)) [] μ 435 (hl_L (nI i)) [vR 69 0, vI (hs_gX g (i + 2)), vI (hs_gX g (i + 1)), vR 11 0] μ ?_ ?_
  · show hl_go 200 [] 60 421 (hl_L (nI i)) [] μ = _
    rw [hl_a_6, if_pos (show hs_in (nI i + (1 : Int32)) _ = true from a1.1), if_pos (show hs_in (nI i + (2 : Int32)) _ = true from a2.1), show (μ).1 70 0 (nI i + (1 : Int32)).toNatClampNeg = hs_gX g (i + 1) from a1.2, show (μ).1 70 0 (nI i + (2 : Int32)).toNatClampNeg = hs_gX g (i + 2) from a2.2]
  have hdd : hl_y_change.cls ≠ "java/lang/invoke/MethodHandle" ∧ hl_y_change.cls ≠ "java/lang/invoke/VarHandle" ∧ (parseMethodDescriptor hl_y_change.desc).map (fun d => d.parameters.length) = some 4 := by decide +kernel
  rcases hx_change2 197 h (hs_gX g (i + 1)) (hs_gX g (i + 2)) with ⟨v, μ1, e1, r⟩ | ⟨e1, v, μ2, e2, th, E2, t2, h2⟩
  · obtain ⟨μ2, e2, th, w69, E2, t2, h2⟩ := r v.toInt64
    have e2 : hc_M_change 200 (hs_gX g (i + 1)) (hs_gX g (i + 2)) (hs_wL μ1 69 0 0 v.toInt64) = some (some (vI v), μ2) := e2
    refine hl_callH C hSx (d := 200) (as := [vR 11 0, vI (hs_gX g (i + 1)), vI (hs_gX g (i + 2)), vR 69 0]) (y := hl_y_change) (n := 4) (maxL := 5) hdec hl_c_change hl_in_change hl_lw_change hl_st_change hdd rfl (by decide) (by omega) (by omega) hRc (hl_R_change g l 200 e1) ?_
    refine hl_sc (d := 200) (own := 13) (cc := code) (fun hsc1 => ?_)
    have b1 := hl_arg hsc1 (i := i) (k := 1) (by omega) hN
    have b2 := hl_arg hsc1 (i := i) (k := 2) (by omega) hN
    refine hg_sound C' hl_ck (stops := [1752]) 60 438 (hl_L (nI i)) [vI 0] _ 1752 (hl_L (nI i)) [] μ2 ?_ (hk μ2 E2 t2 h2)
    show hl_go 200 [1752] 60 438 (hl_L (nI i)) [vI 0] (hs_wL μ1 69 0 0 v.toInt64) = _
    rw [hl_b_6, if_pos (show hs_in (nI i + (1 : Int32)) _ = true from b1.1), if_pos (show hs_in (nI i + (2 : Int32)) _ = true from b2.1), show (hs_wL μ1 69 0 0 v.toInt64).1 70 0 (nI i + (1 : Int32)).toNatClampNeg = hs_gX g (i + 1) from b1.2, show (hs_wL μ1 69 0 0 v.toInt64).1 70 0 (nI i + (2 : Int32)).toNatClampNeg = hs_gX g (i + 2) from b2.2, e2, hx_bI, hq_M_thrown, hx_bI, th, if_pos rfl, if_pos rfl, w69, hl_cmp, if_pos rfl]
  · have e2 : hc_M_change 200 (hs_gX g (i + 1)) (hs_gX g (i + 2)) μ = some (some (vI v), μ2) := e2
    refine hl_callH C hSx (d := 199) (as := [vR 11 0, vI (hs_gX g (i + 1)), vI (hs_gX g (i + 2)), vR 69 0]) (y := hl_y_change) (n := 4) (maxL := 5) hdec hl_c_change hl_in_change hl_lw_change hl_st_change hdd rfl (by decide) (by omega) (by omega) hRc (hl_T_change g l hlt 199 e1) ?_
    refine hg_sound C' hl_ck (stops := [1752]) 60 438 (hl_L (nI i)) [vI 1] μ 1752 (hl_L (nI i)) [] μ2 ?_ (hk μ2 E2 t2 h2)
    show hl_go 200 [1752] 60 438 (hl_L (nI i)) [vI 1] μ = _
    rw [hl_b_6, if_pos (show hs_in (nI i + (1 : Int32)) _ = true from a1.1), if_pos (show hs_in (nI i + (2 : Int32)) _ = true from a2.1), show (μ).1 70 0 (nI i + (1 : Int32)).toNatClampNeg = hs_gX g (i + 1) from a1.2, show (μ).1 70 0 (nI i + (2 : Int32)).toNatClampNeg = hs_gX g (i + 2) from a2.2, e2, hx_bI, hq_M_thrown, hx_bI, th, if_pos rfl, if_neg (by decide)]
theorem hl_lw_laws : Cond.methodLink (hs_own 13) 98 hl_y_laws ∈ hs_GW := hs_is_in (i := 1264) (by decide +kernel)
theorem hl_st_laws : Cond.static hl_y_laws ∈ hs_GW := hs_is_in (i := 1265) (by decide +kernel)
theorem hl_in_laws : Cond.initialized hl_y_laws.cls ∈ hs_GW := hs_is_in (i := 85) (by decide +kernel)
theorem hl_op_14 {g : hs_G} {p : Program} {l : Launch} {e : Env} {R : Room} {s : State} {m : MethodId} {args : Array Value} {below : List Frame} {meth : Method} {c : Code} {cells slots : Nat} {Q : State → Prop} (C : hs_Ctx g p l R s m args c cells slots 13 code 8 (hs_call 200)) (hSx : hl_Sx g s) (hlt : l.stackTraces = false) (hRf : 300 ≤ R.frames) (hRl : 20000 ≤ R.locals) (hRc : cells + 1 ≤ R.cells ∧ slots + 6 ≤ R.slots) {n : Nat} (hn : n ≤ 512) {E : hx_Env} {t : hx_St} {μ : hs_M} (h : hx_I n E t μ) {i : Nat} (hi : i + 5 ≤ hs_gN g) (hN : hs_gN g ≤ 2560) (hsc : hs_Sc g μ) (hk : ∀ μ2 E2 t2, hx_I (n + 1) E2 t2 μ2 → hs_WS g p l e R s m args below meth c (cells + 1) (slots + 6) 8 Q 1752 (hl_L (nI i)) [] μ2) : hs_WS g p l e R s m args below meth c cells slots 8 Q 712 (hl_L (nI i)) [] μ := by
  have hdec : decode code 726 = .ok (.invokestatic 98, 3) := (hs_at_ok hl_ck (show hs_at hs_klaw 726 = some _ from rfl)).1
  have C' := hl_up C hRc.1 hRc.2
  have a1 := hl_arg hsc (i := i) (k := 1) (by omega) hN
  have a2 := hl_arg hsc (i := i) (k := 2) (by omega) hN
  refine hg_sound C hl_ck (stops := []) 60 712 (hl_L (nI i)) [] μ 726 (hl_L (nI i)) [vR 69 0, vI (hs_gX g (i + 2)), vI (hs_gX g (i + 1)), vR 11 0] μ ?_ ?_
  · show hl_go 200 [] 60 712 (hl_L (nI i)) [] μ = _
    rw [hl_a_14, if_pos (show hs_in (nI i + (1 : Int32)) _ = true from a1.1), if_pos (show hs_in (nI i + (2 : Int32)) _ = true from a2.1), show (μ).1 70 0 (nI i + (1 : Int32)).toNatClampNeg = hs_gX g (i + 1) from a1.2, show (μ).1 70 0 (nI i + (2 : Int32)).toNatClampNeg = hs_gX g (i + 2) from a2.2]
  have hdd : hl_y_laws.cls ≠ "java/lang/invoke/MethodHandle" ∧ hl_y_laws.cls ≠ "java/lang/invoke/VarHandle" ∧ (parseMethodDescriptor hl_y_laws.desc).map (fun d => d.parameters.length) = some 4 := by decide +kernel
  rcases hx_laws2 198 h (hs_gX g (i + 1)) (hs_gX g (i + 2)) with ⟨v, μ1, e1, r⟩ | ⟨e1, v, μ2, e2, th, E2, t2, h2⟩
  · obtain ⟨μ2, e2, th, w69, E2, t2, h2⟩ := r v.toInt64
    have e2 : hc_M_laws 200 (hs_gX g (i + 1)) (hs_gX g (i + 2)) (hs_wL μ1 69 0 0 v.toInt64) = some (some (vI v), μ2) := e2
    refine hl_callH C hSx (d := 200) (as := [vR 11 0, vI (hs_gX g (i + 1)), vI (hs_gX g (i + 2)), vR 69 0]) (y := hl_y_laws) (n := 4) (maxL := 5) hdec hl_c_laws hl_in_laws hl_lw_laws hl_st_laws hdd rfl (by decide) (by omega) (by omega) hRc (hl_R_laws g l 200 e1) ?_
    refine hl_sc (d := 200) (own := 13) (cc := code) (fun hsc1 => ?_)
    have b1 := hl_arg hsc1 (i := i) (k := 1) (by omega) hN
    have b2 := hl_arg hsc1 (i := i) (k := 2) (by omega) hN
    refine hg_sound C' hl_ck (stops := [1752]) 60 729 (hl_L (nI i)) [vI 0] _ 1752 (hl_L (nI i)) [] μ2 ?_ (hk μ2 E2 t2 h2)
    show hl_go 200 [1752] 60 729 (hl_L (nI i)) [vI 0] (hs_wL μ1 69 0 0 v.toInt64) = _
    rw [hl_b_14, if_pos (show hs_in (nI i + (1 : Int32)) _ = true from b1.1), if_pos (show hs_in (nI i + (2 : Int32)) _ = true from b2.1), show (hs_wL μ1 69 0 0 v.toInt64).1 70 0 (nI i + (1 : Int32)).toNatClampNeg = hs_gX g (i + 1) from b1.2, show (hs_wL μ1 69 0 0 v.toInt64).1 70 0 (nI i + (2 : Int32)).toNatClampNeg = hs_gX g (i + 2) from b2.2, e2, hx_bI, hq_M_thrown, hx_bI, th, if_pos rfl, if_pos rfl, w69, hl_cmp, if_pos rfl]
  · have e2 : hc_M_laws 200 (hs_gX g (i + 1)) (hs_gX g (i + 2)) μ = some (some (vI v), μ2) := e2
    refine hl_callH C hSx (d := 199) (as := [vR 11 0, vI (hs_gX g (i + 1)), vI (hs_gX g (i + 2)), vR 69 0]) (y := hl_y_laws) (n := 4) (maxL := 5) hdec hl_c_laws hl_in_laws hl_lw_laws hl_st_laws hdd rfl (by decide) (by omega) (by omega) hRc (hl_T_laws g l hlt 199 e1) ?_
    refine hg_sound C' hl_ck (stops := [1752]) 60 729 (hl_L (nI i)) [vI 1] μ 1752 (hl_L (nI i)) [] μ2 ?_ (hk μ2 E2 t2 h2)
    show hl_go 200 [1752] 60 729 (hl_L (nI i)) [vI 1] μ = _
    rw [hl_b_14, if_pos (show hs_in (nI i + (1 : Int32)) _ = true from a1.1), if_pos (show hs_in (nI i + (2 : Int32)) _ = true from a2.1), show (μ).1 70 0 (nI i + (1 : Int32)).toNatClampNeg = hs_gX g (i + 1) from a1.2, show (μ).1 70 0 (nI i + (2 : Int32)).toNatClampNeg = hs_gX g (i + 2) from a2.2, e2, hx_bI, hq_M_thrown, hx_bI, th, if_pos rfl, if_neg (by decide)]
theorem hl_lw_fool : Cond.methodLink (hs_own 13) 153 hl_y_fool ∈ hs_GW := hs_is_in (i := 1271) (by decide +kernel)
theorem hl_st_fool : Cond.static hl_y_fool ∈ hs_GW := hs_is_in (i := 1272) (by decide +kernel)
theorem hl_in_fool : Cond.initialized hl_y_fool.cls ∈ hs_GW := hs_is_in (i := 85) (by decide +kernel)
theorem hl_op_28 {g : hs_G} {p : Program} {l : Launch} {e : Env} {R : Room} {s : State} {m : MethodId} {args : Array Value} {below : List Frame} {meth : Method} {c : Code} {cells slots : Nat} {Q : State → Prop} (C : hs_Ctx g p l R s m args c cells slots 13 code 8 (hs_call 200)) (hSx : hl_Sx g s) (hlt : l.stackTraces = false) (hRf : 300 ≤ R.frames) (hRl : 20000 ≤ R.locals) (hRc : cells + 1 ≤ R.cells ∧ slots + 6 ≤ R.slots) {n : Nat} (hn : n ≤ 512) {E : hx_Env} {t : hx_St} {μ : hs_M} (h : hx_I n E t μ) {i : Nat} (hi : i + 5 ≤ hs_gN g) (hN : hs_gN g ≤ 2560) (hsc : hs_Sc g μ) (hk : ∀ μ2 E2 t2, hx_I (n + 1) E2 t2 μ2 → hs_WS g p l e R s m args below meth c (cells + 1) (slots + 6) 8 Q 1752 (hl_L (nI i)) [] μ2) : hs_WS g p l e R s m args below meth c cells slots 8 Q 1165 (hl_L (nI i)) [] μ := by
  have hdec : decode code 1179 = .ok (.invokestatic 153, 3) := (hs_at_ok hl_ck (show hs_at hs_klaw 1179 = some _ from rfl)).1
  have C' := hl_up C hRc.1 hRc.2
  have a1 := hl_arg hsc (i := i) (k := 1) (by omega) hN
  have a2 := hl_arg hsc (i := i) (k := 2) (by omega) hN
  refine hg_sound C hl_ck (stops := []) 60 1165 (hl_L (nI i)) [] μ 1179 (hl_L (nI i)) [vR 69 0, vI (hs_gX g (i + 2)), vI (hs_gX g (i + 1)), vR 11 0] μ ?_ ?_
  · show hl_go 200 [] 60 1165 (hl_L (nI i)) [] μ = _
    rw [hl_a_28, if_pos (show hs_in (nI i + (1 : Int32)) _ = true from a1.1), if_pos (show hs_in (nI i + (2 : Int32)) _ = true from a2.1), show (μ).1 70 0 (nI i + (1 : Int32)).toNatClampNeg = hs_gX g (i + 1) from a1.2, show (μ).1 70 0 (nI i + (2 : Int32)).toNatClampNeg = hs_gX g (i + 2) from a2.2]
  have hdd : hl_y_fool.cls ≠ "java/lang/invoke/MethodHandle" ∧ hl_y_fool.cls ≠ "java/lang/invoke/VarHandle" ∧ (parseMethodDescriptor hl_y_fool.desc).map (fun d => d.parameters.length) = some 4 := by decide +kernel
  rcases hx_fool2 193 hn h (hs_gX g (i + 1)) (hs_gX g (i + 2)) with ⟨v, μ1, e1, r⟩ | ⟨e1, v, μ2, e2, th, E2, t2, h2⟩
  · obtain ⟨μ2, e2, th, w69, E2, t2, h2⟩ := r v.toInt64
    have e2 : hc_M_fool 200 (hs_gX g (i + 1)) (hs_gX g (i + 2)) (hs_wL μ1 69 0 0 v.toInt64) = some (some (vI v), μ2) := e2
    refine hl_callH C hSx (d := 200) (as := [vR 11 0, vI (hs_gX g (i + 1)), vI (hs_gX g (i + 2)), vR 69 0]) (y := hl_y_fool) (n := 4) (maxL := 5) hdec hl_c_fool hl_in_fool hl_lw_fool hl_st_fool hdd rfl (by decide) (by omega) (by omega) hRc (hl_R_fool g l 200 e1) ?_
    refine hl_sc (d := 200) (own := 13) (cc := code) (fun hsc1 => ?_)
    have b1 := hl_arg hsc1 (i := i) (k := 1) (by omega) hN
    have b2 := hl_arg hsc1 (i := i) (k := 2) (by omega) hN
    refine hg_sound C' hl_ck (stops := [1752]) 60 1182 (hl_L (nI i)) [vI 0] _ 1752 (hl_L (nI i)) [] μ2 ?_ (hk μ2 E2 t2 h2)
    show hl_go 200 [1752] 60 1182 (hl_L (nI i)) [vI 0] (hs_wL μ1 69 0 0 v.toInt64) = _
    rw [hl_b_28, if_pos (show hs_in (nI i + (1 : Int32)) _ = true from b1.1), if_pos (show hs_in (nI i + (2 : Int32)) _ = true from b2.1), show (hs_wL μ1 69 0 0 v.toInt64).1 70 0 (nI i + (1 : Int32)).toNatClampNeg = hs_gX g (i + 1) from b1.2, show (hs_wL μ1 69 0 0 v.toInt64).1 70 0 (nI i + (2 : Int32)).toNatClampNeg = hs_gX g (i + 2) from b2.2, e2, hx_bI, hq_M_thrown, hx_bI, th, if_pos rfl, if_pos rfl, w69, hl_cmp, if_pos rfl]
  · have e2 : hc_M_fool 200 (hs_gX g (i + 1)) (hs_gX g (i + 2)) μ = some (some (vI v), μ2) := e2
    refine hl_callH C hSx (d := 199) (as := [vR 11 0, vI (hs_gX g (i + 1)), vI (hs_gX g (i + 2)), vR 69 0]) (y := hl_y_fool) (n := 4) (maxL := 5) hdec hl_c_fool hl_in_fool hl_lw_fool hl_st_fool hdd rfl (by decide) (by omega) (by omega) hRc (hl_T_fool g l hlt 199 e1) ?_
    refine hg_sound C' hl_ck (stops := [1752]) 60 1182 (hl_L (nI i)) [vI 1] μ 1752 (hl_L (nI i)) [] μ2 ?_ (hk μ2 E2 t2 h2)
    show hl_go 200 [1752] 60 1182 (hl_L (nI i)) [vI 1] μ = _
    rw [hl_b_28, if_pos (show hs_in (nI i + (1 : Int32)) _ = true from a1.1), if_pos (show hs_in (nI i + (2 : Int32)) _ = true from a2.1), show (μ).1 70 0 (nI i + (1 : Int32)).toNatClampNeg = hs_gX g (i + 1) from a1.2, show (μ).1 70 0 (nI i + (2 : Int32)).toNatClampNeg = hs_gX g (i + 2) from a2.2, e2, hx_bI, hq_M_thrown, hx_bI, th, if_pos rfl, if_neg (by decide)]
theorem hl_lw_row : Cond.methodLink (hs_own 13) 236 hl_y_row ∈ hs_GW := hs_is_in (i := 1282) (by decide +kernel)
theorem hl_st_row : Cond.static hl_y_row ∈ hs_GW := hs_is_in (i := 1283) (by decide +kernel)
theorem hl_in_row : Cond.initialized hl_y_row.cls ∈ hs_GW := hs_is_in (i := 85) (by decide +kernel)
theorem hl_op_49 {g : hs_G} {p : Program} {l : Launch} {e : Env} {R : Room} {s : State} {m : MethodId} {args : Array Value} {below : List Frame} {meth : Method} {c : Code} {cells slots : Nat} {Q : State → Prop} (C : hs_Ctx g p l R s m args c cells slots 13 code 8 (hs_call 200)) (hSx : hl_Sx g s) (hlt : l.stackTraces = false) (hRf : 300 ≤ R.frames) (hRl : 20000 ≤ R.locals) (hRc : cells + 1 ≤ R.cells ∧ slots + 6 ≤ R.slots) {n : Nat} (hn : n ≤ 512) {E : hx_Env} {t : hx_St} {μ : hs_M} (h : hx_I n E t μ) {i : Nat} (hi : i + 5 ≤ hs_gN g) (hN : hs_gN g ≤ 2560) (hsc : hs_Sc g μ) (hk : ∀ μ2 E2 t2, hx_I (n + 1) E2 t2 μ2 → hs_WS g p l e R s m args below meth c (cells + 1) (slots + 6) 8 Q 1752 (hl_L (nI i)) [] μ2) : hs_WS g p l e R s m args below meth c cells slots 8 Q 1697 (hl_L (nI i)) [] μ := by
  have hdec : decode code 1705 = .ok (.invokestatic 236, 3) := (hs_at_ok hl_ck (show hs_at hs_klaw 1705 = some _ from rfl)).1
  have C' := hl_up C hRc.1 hRc.2
  have a1 := hl_arg hsc (i := i) (k := 1) (by omega) hN
  refine hg_sound C hl_ck (stops := []) 60 1697 (hl_L (nI i)) [] μ 1705 (hl_L (nI i)) [vR 69 0, vI (hs_gX g (i + 1)), vR 11 0] μ ?_ ?_
  · show hl_go 200 [] 60 1697 (hl_L (nI i)) [] μ = _
    rw [hl_a_49, if_pos (show hs_in (nI i + (1 : Int32)) _ = true from a1.1), show (μ).1 70 0 (nI i + (1 : Int32)).toNatClampNeg = hs_gX g (i + 1) from a1.2]
  have hdd : hl_y_row.cls ≠ "java/lang/invoke/MethodHandle" ∧ hl_y_row.cls ≠ "java/lang/invoke/VarHandle" ∧ (parseMethodDescriptor hl_y_row.desc).map (fun d => d.parameters.length) = some 3 := by decide +kernel
  rcases hx_row2 198 h (hs_gX g (i + 1)) with ⟨v, μ1, e1, r⟩ | ⟨e1, v, μ2, e2, th, E2, t2, h2⟩
  · obtain ⟨μ2, e2, th, w69, E2, t2, h2⟩ := r v
    have e2 : hc_M_row 200 (hs_gX g (i + 1)) (hs_wL μ1 69 0 0 v) = some (some (vL v), μ2) := e2
    refine hl_callH C hSx (d := 200) (as := [vR 11 0, vI (hs_gX g (i + 1)), vR 69 0]) (y := hl_y_row) (n := 3) (maxL := 4) hdec hl_c_row hl_in_row hl_lw_row hl_st_row hdd rfl (by decide) (by omega) (by omega) hRc (hl_R_row g l 200 e1) ?_
    refine hl_sc (d := 200) (own := 13) (cc := code) (fun hsc1 => ?_)
    have b1 := hl_arg hsc1 (i := i) (k := 1) (by omega) hN
    refine hg_sound C' hl_ck (stops := [1752]) 60 1708 (hl_L (nI i)) [vI 0] _ 1752 (hl_L (nI i)) [] μ2 ?_ (hk μ2 E2 t2 h2)
    show hl_go 200 [1752] 60 1708 (hl_L (nI i)) [vI 0] (hs_wL μ1 69 0 0 v) = _
    rw [hl_b_49, if_pos (show hs_in (nI i + (1 : Int32)) _ = true from b1.1), show (hs_wL μ1 69 0 0 v).1 70 0 (nI i + (1 : Int32)).toNatClampNeg = hs_gX g (i + 1) from b1.2, e2, hx_bL, hq_M_thrown, hx_bI, th, if_pos rfl, if_pos rfl, w69, hl_cmp, if_pos rfl]
  · have e2 : hc_M_row 200 (hs_gX g (i + 1)) μ = some (some (vL v), μ2) := e2
    refine hl_callH C hSx (d := 199) (as := [vR 11 0, vI (hs_gX g (i + 1)), vR 69 0]) (y := hl_y_row) (n := 3) (maxL := 4) hdec hl_c_row hl_in_row hl_lw_row hl_st_row hdd rfl (by decide) (by omega) (by omega) hRc (hl_T_row g l hlt 199 e1) ?_
    refine hg_sound C' hl_ck (stops := [1752]) 60 1708 (hl_L (nI i)) [vI 1] μ 1752 (hl_L (nI i)) [] μ2 ?_ (hk μ2 E2 t2 h2)
    show hl_go 200 [1752] 60 1708 (hl_L (nI i)) [vI 1] μ = _
    rw [hl_b_49, if_pos (show hs_in (nI i + (1 : Int32)) _ = true from a1.1), show (μ).1 70 0 (nI i + (1 : Int32)).toNatClampNeg = hs_gX g (i + 1) from a1.2, e2, hx_bL, hq_M_thrown, hx_bI, th, if_pos rfl, if_neg (by decide)]
