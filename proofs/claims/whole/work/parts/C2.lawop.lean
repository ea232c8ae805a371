/-! ===== the law, opcode by opcode ===== -/
theorem hl_arg {g : hs_G} {μ : hs_M} (hsc : hs_Sc g μ) {i k : Nat} (hi : i + k < hs_gN g) (hN : hs_gN g ≤ 2560) : hs_in (nI i + nI k) (μ.1 70 1 0).toNatClampNeg = true ∧ μ.1 70 0 (nI i + nI k).toNatClampNeg = hs_gX g (i + k) := by
  rw [hsc.2, nI_add, nI_clamp (by omega)]
  exact ⟨hx_in hi (by omega), hsc.1 _ hi⟩
theorem hl_op_0 {g : hs_G} {p : Program} {l : Launch} {e : Env} {R : Room} {s : State} {m : MethodId} {args : Array Value} {below : List Frame} {meth : Method} {c : Code} {cells slots : Nat} {Q : State → Prop} (C : hs_Ctx g p l R s m args c cells slots 13 code 8 (hs_call 200)) {n : Nat} (hn : n ≤ 512) {E : hx_Env} {t : hx_St} {μ : hs_M} (h : hx_I n E t μ) {i : Nat} (hi : i + 5 ≤ hs_gN g) (hN : hs_gN g ≤ 2560) (hsc : hs_Sc g μ) (hk : ∀ μ2 E2 t2, hx_I (n + 1) E2 t2 μ2 → hs_WS g p l e R s m args below meth c cells slots 8 Q 1752 (hl_L (nI i)) [] μ2) : hs_WS g p l e R s m args below meth c cells slots 8 Q 252 (hl_L (nI i)) [] μ := by
  obtain ⟨v, μ1, μ2, e1, e2, E2, t2, h2⟩ := hx_sign 198 h (hs_gX g (i + 1))
  have e1 : hc_H_sign 200 (hs_gX g (i + 1)) μ = some (some (vI v), μ1) := e1
  have e2 : hc_M_sign 200 (hs_gX g (i + 1)) μ1 = some (some (vI v), μ2) := e2
  have a1 := hl_arg hsc (i := i) (k := 1) (by omega) hN
  refine hg_sound C hl_ck (stops := [262]) 60 252 (hl_L (nI i)) [] μ 262 (hl_L (nI i)) [vI v] μ1 ?_ ?_
  · show hl_go 200 [262] 60 252 (hl_L (nI i)) [] μ = _
    rw [hl_a_0, if_pos (show hs_in (nI i + (1 : Int32)) _ = true from a1.1), show μ.1 70 0 (nI i + (1 : Int32)).toNatClampNeg = hs_gX g (i + 1) from a1.2, e1, hx_bI]
  refine hl_sc (d := 200) (own := 13) (cc := code) (fun hsc1 => ?_)
  have b1 := hl_arg hsc1 (i := i) (k := 1) (by omega) hN
  refine hg_sound C hl_ck (stops := [1752]) 60 262 (hl_L (nI i)) [vI v] μ1 1752 (hl_L (nI i)) [] μ2 ?_ (hk μ2 E2 t2 h2)
  show hl_go 200 [1752] 60 262 (hl_L (nI i)) [vI v] μ1 = _
  rw [hl_b_0, if_pos (show hs_in (nI i + (1 : Int32)) _ = true from b1.1), show μ1.1 70 0 (nI i + (1 : Int32)).toNatClampNeg = hs_gX g (i + 1) from b1.2, e2, hx_bI, if_pos rfl]
theorem hl_op_1 {g : hs_G} {p : Program} {l : Launch} {e : Env} {R : Room} {s : State} {m : MethodId} {args : Array Value} {below : List Frame} {meth : Method} {c : Code} {cells slots : Nat} {Q : State → Prop} (C : hs_Ctx g p l R s m args c cells slots 13 code 8 (hs_call 200)) {n : Nat} (hn : n ≤ 512) {E : hx_Env} {t : hx_St} {μ : hs_M} (h : hx_I n E t μ) {i : Nat} (hi : i + 5 ≤ hs_gN g) (hN : hs_gN g ≤ 2560) (hsc : hs_Sc g μ) (hk : ∀ μ2 E2 t2, hx_I (n + 1) E2 t2 μ2 → hs_WS g p l e R s m args below meth c cells slots 8 Q 1752 (hl_L (nI i)) [] μ2) : hs_WS g p l e R s m args below meth c cells slots 8 Q 277 (hl_L (nI i)) [] μ := by
  obtain ⟨v, μ1, μ2, e1, e2, E2, t2, h2⟩ := hx_end 198 h (hs_gX g (i + 1))
  have e1 : hc_H_end 200 (hs_gX g (i + 1)) μ = some (some (vI v), μ1) := e1
  have e2 : hc_M_end 200 (hs_gX g (i + 1)) μ1 = some (some (vI v), μ2) := e2
  have a1 := hl_arg hsc (i := i) (k := 1) (by omega) hN
  refine hg_sound C hl_ck (stops := [287]) 60 277 (hl_L (nI i)) [] μ 287 (hl_L (nI i)) [vI v] μ1 ?_ ?_
  · show hl_go 200 [287] 60 277 (hl_L (nI i)) [] μ = _
    rw [hl_a_1, if_pos (show hs_in (nI i + (1 : Int32)) _ = true from a1.1), show μ.1 70 0 (nI i + (1 : Int32)).toNatClampNeg = hs_gX g (i + 1) from a1.2, e1, hx_bI]
  refine hl_sc (d := 200) (own := 13) (cc := code) (fun hsc1 => ?_)
  have b1 := hl_arg hsc1 (i := i) (k := 1) (by omega) hN
  refine hg_sound C hl_ck (stops := [1752]) 60 287 (hl_L (nI i)) [vI v] μ1 1752 (hl_L (nI i)) [] μ2 ?_ (hk μ2 E2 t2 h2)
  show hl_go 200 [1752] 60 287 (hl_L (nI i)) [vI v] μ1 = _
  rw [hl_b_1, if_pos (show hs_in (nI i + (1 : Int32)) _ = true from b1.1), show μ1.1 70 0 (nI i + (1 : Int32)).toNatClampNeg = hs_gX g (i + 1) from b1.2, e2, hx_bI, if_pos rfl]
theorem hl_op_2 {g : hs_G} {p : Program} {l : Launch} {e : Env} {R : Room} {s : State} {m : MethodId} {args : Array Value} {below : List Frame} {meth : Method} {c : Code} {cells slots : Nat} {Q : State → Prop} (C : hs_Ctx g p l R s m args c cells slots 13 code 8 (hs_call 200)) {n : Nat} (hn : n ≤ 512) {E : hx_Env} {t : hx_St} {μ : hs_M} (h : hx_I n E t μ) {i : Nat} (hi : i + 5 ≤ hs_gN g) (hN : hs_gN g ≤ 2560) (hsc : hs_Sc g μ) (hk : ∀ μ2 E2 t2, hx_I (n + 1) E2 t2 μ2 → hs_WS g p l e R s m args below meth c cells slots 8 Q 1752 (hl_L (nI i)) [] μ2) : hs_WS g p l e R s m args below meth c cells slots 8 Q 302 (hl_L (nI i)) [] μ := by
  obtain ⟨v, μ1, μ2, e1, e2, E2, t2, h2⟩ := hx_town 194 h
  have e1 : hc_H_town 200  μ = some (some (vI v), μ1) := e1
  have e2 : hc_M_town 200  μ1 = some (some (vI v), μ2) := e2
  refine hg_sound C hl_ck (stops := [306]) 60 302 (hl_L (nI i)) [] μ 306 (hl_L (nI i)) [vI v] μ1 ?_ ?_
  · show hl_go 200 [306] 60 302 (hl_L (nI i)) [] μ = _
    rw [hl_a_2, e1, hx_bI]
  refine hl_sc (d := 200) (own := 13) (cc := code) (fun hsc1 => ?_)
  refine hg_sound C hl_ck (stops := [1752]) 60 306 (hl_L (nI i)) [vI v] μ1 1752 (hl_L (nI i)) [] μ2 ?_ (hk μ2 E2 t2 h2)
  show hl_go 200 [1752] 60 306 (hl_L (nI i)) [vI v] μ1 = _
  rw [hl_b_2, e2, hx_bI, if_pos rfl]
theorem hl_op_3 {g : hs_G} {p : Program} {l : Launch} {e : Env} {R : Room} {s : State} {m : MethodId} {args : Array Value} {below : List Frame} {meth : Method} {c : Code} {cells slots : Nat} {Q : State → Prop} (C : hs_Ctx g p l R s m args c cells slots 13 code 8 (hs_call 200)) {n : Nat} (hn : n ≤ 512) {E : hx_Env} {t : hx_St} {μ : hs_M} (h : hx_I n E t μ) {i : Nat} (hi : i + 5 ≤ hs_gN g) (hN : hs_gN g ≤ 2560) (hsc : hs_Sc g μ) (hk : ∀ μ2 E2 t2, hx_I (n + 1) E2 t2 μ2 → hs_WS g p l e R s m args below meth c cells slots 8 Q 1752 (hl_L (nI i)) [] μ2) : hs_WS g p l e R s m args below meth c cells slots 8 Q 315 (hl_L (nI i)) [] μ := by
  obtain ⟨v, μ1, μ2, e1, e2, E2, t2, h2⟩ := hx_will 110 h
  have e1 : hc_H_will 200  μ = some (some (vI v), μ1) := e1
  have e2 : hc_M_will 200  μ1 = some (some (vI v), μ2) := e2
  refine hg_sound C hl_ck (stops := [319]) 60 315 (hl_L (nI i)) [] μ 319 (hl_L (nI i)) [vI v] μ1 ?_ ?_
  · show hl_go 200 [319] 60 315 (hl_L (nI i)) [] μ = _
    rw [hl_a_3, e1, hx_bI]
  refine hl_sc (d := 200) (own := 13) (cc := code) (fun hsc1 => ?_)
  refine hg_sound C hl_ck (stops := [1752]) 60 319 (hl_L (nI i)) [vI v] μ1 1752 (hl_L (nI i)) [] μ2 ?_ (hk μ2 E2 t2 h2)
  show hl_go 200 [1752] 60 319 (hl_L (nI i)) [vI v] μ1 = _
  rw [hl_b_3, e2, hx_bI, if_pos rfl]
theorem hl_op_4 {g : hs_G} {p : Program} {l : Launch} {e : Env} {R : Room} {s : State} {m : MethodId} {args : Array Value} {below : List Frame} {meth : Method} {c : Code} {cells slots : Nat} {Q : State → Prop} (C : hs_Ctx g p l R s m args c cells slots 13 code 8 (hs_call 200)) {n : Nat} (hn : n ≤ 512) {E : hx_Env} {t : hx_St} {μ : hs_M} (h : hx_I n E t μ) {i : Nat} (hi : i + 5 ≤ hs_gN g) (hN : hs_gN g ≤ 2560) (hsc : hs_Sc g μ) (hk : ∀ μ2 E2 t2, hx_I (n + 1) E2 t2 μ2 → hs_WS g p l e R s m args below meth c cells slots 8 Q 1752 (hl_L (nI i)) [] μ2) : hs_WS g p l e R s m args below meth c cells slots 8 Q 328 (hl_L (nI i)) [] μ := by
  obtain ⟨v, μ1, μ2, e1, e2, E2, t2, h2⟩ := hx_habit 195 h (hs_gX g (i + 1))
  have e1 : hc_H_habit 200 (hs_gX g (i + 1)) μ = some (some (vI v), μ1) := e1
  have e2 : hc_M_habit 200 (hs_gX g (i + 1)) μ1 = some (some (vI v), μ2) := e2
  have a1 := hl_arg hsc (i := i) (k := 1) (by omega) hN
  refine hg_sound C hl_ck (stops := [338]) 60 328 (hl_L (nI i)) [] μ 338 (hl_L (nI i)) [vI v] μ1 ?_ ?_
  · show hl_go 200 [338] 60 328 (hl_L (nI i)) [] μ = _
    rw [hl_a_4, if_pos (show hs_in (nI i + (1 : Int32)) _ = true from a1.1), show μ.1 70 0 (nI i + (1 : Int32)).toNatClampNeg = hs_gX g (i + 1) from a1.2, e1, hx_bI]
  refine hl_sc (d := 200) (own := 13) (cc := code) (fun hsc1 => ?_)
  have b1 := hl_arg hsc1 (i := i) (k := 1) (by omega) hN
  refine hg_sound C hl_ck (stops := [1752]) 60 338 (hl_L (nI i)) [vI v] μ1 1752 (hl_L (nI i)) [] μ2 ?_ (hk μ2 E2 t2 h2)
  show hl_go 200 [1752] 60 338 (hl_L (nI i)) [vI v] μ1 = _
  rw [hl_b_4, if_pos (show hs_in (nI i + (1 : Int32)) _ = true from b1.1), show μ1.1 70 0 (nI i + (1 : Int32)).toNatClampNeg = hs_gX g (i + 1) from b1.2, e2, hx_bI, if_pos rfl]
theorem hl_op_7 {g : hs_G} {p : Program} {l : Launch} {e : Env} {R : Room} {s : State} {m : MethodId} {args : Array Value} {below : List Frame} {meth : Method} {c : Code} {cells slots : Nat} {Q : State → Prop} (C : hs_Ctx g p l R s m args c cells slots 13 code 8 (hs_call 200)) {n : Nat} (hn : n ≤ 512) {E : hx_Env} {t : hx_St} {μ : hs_M} (h : hx_I n E t μ) {i : Nat} (hi : i + 5 ≤ hs_gN g) (hN : hs_gN g ≤ 2560) (hsc : hs_Sc g μ) (hk : ∀ μ2 E2 t2, hx_I (n + 1) E2 t2 μ2 → hs_WS g p l e R s m args below meth c cells slots 8 Q 1752 (hl_L (nI i)) [] μ2) : hs_WS g p l e R s m args below meth c cells slots 8 Q 489 (hl_L (nI i)) [] μ := by
  obtain ⟨v, μ1, μ2, e1, e2, E2, t2, h2⟩ := hx_set 197 h (hs_gX g (i + 1)) (hs_gX g (i + 2)) (hs_gX g (i + 3))
  have e1 : hc_H_set 200 (hs_gX g (i + 1)) (hs_gX g (i + 2)) (hs_gX g (i + 3)) μ = some (some (vI v), μ1) := e1
  have e2 : hc_M_set 200 (hs_gX g (i + 1)) (hs_gX g (i + 2)) (hs_gX g (i + 3)) μ1 = some (some (vI v), μ2) := e2
  have a1 := hl_arg hsc (i := i) (k := 1) (by omega) hN
  have a2 := hl_arg hsc (i := i) (k := 2) (by omega) hN
  have a3 := hl_arg hsc (i := i) (k := 3) (by omega) hN
  refine hg_sound C hl_ck (stops := [511]) 60 489 (hl_L (nI i)) [] μ 511 (hl_L (nI i)) [vI v] μ1 ?_ ?_
  · show hl_go 200 [511] 60 489 (hl_L (nI i)) [] μ = _
    rw [hl_a_7, if_pos (show hs_in (nI i + (1 : Int32)) _ = true from a1.1), if_pos (show hs_in (nI i + (2 : Int32)) _ = true from a2.1), if_pos (show hs_in (nI i + (3 : Int32)) _ = true from a3.1), show μ.1 70 0 (nI i + (1 : Int32)).toNatClampNeg = hs_gX g (i + 1) from a1.2, show μ.1 70 0 (nI i + (2 : Int32)).toNatClampNeg = hs_gX g (i + 2) from a2.2, show μ.1 70 0 (nI i + (3 : Int32)).toNatClampNeg = hs_gX g (i + 3) from a3.2, e1, hx_bI]
  refine hl_sc (d := 200) (own := 13) (cc := code) (fun hsc1 => ?_)
  have b1 := hl_arg hsc1 (i := i) (k := 1) (by omega) hN
  have b2 := hl_arg hsc1 (i := i) (k := 2) (by omega) hN
  have b3 := hl_arg hsc1 (i := i) (k := 3) (by omega) hN
  refine hg_sound C hl_ck (stops := [1752]) 60 511 (hl_L (nI i)) [vI v] μ1 1752 (hl_L (nI i)) [] μ2 ?_ (hk μ2 E2 t2 h2)
  show hl_go 200 [1752] 60 511 (hl_L (nI i)) [vI v] μ1 = _
  rw [hl_b_7, if_pos (show hs_in (nI i + (1 : Int32)) _ = true from b1.1), if_pos (show hs_in (nI i + (2 : Int32)) _ = true from b2.1), if_pos (show hs_in (nI i + (3 : Int32)) _ = true from b3.1), show μ1.1 70 0 (nI i + (1 : Int32)).toNatClampNeg = hs_gX g (i + 1) from b1.2, show μ1.1 70 0 (nI i + (2 : Int32)).toNatClampNeg = hs_gX g (i + 2) from b2.2, show μ1.1 70 0 (nI i + (3 : Int32)).toNatClampNeg = hs_gX g (i + 3) from b3.2, e2, hx_bI, if_pos rfl]
theorem hl_op_8 {g : hs_G} {p : Program} {l : Launch} {e : Env} {R : Room} {s : State} {m : MethodId} {args : Array Value} {below : List Frame} {meth : Method} {c : Code} {cells slots : Nat} {Q : State → Prop} (C : hs_Ctx g p l R s m args c cells slots 13 code 8 (hs_call 200)) {n : Nat} (hn : n ≤ 512) {E : hx_Env} {t : hx_St} {μ : hs_M} (h : hx_I n E t μ) {i : Nat} (hi : i + 5 ≤ hs_gN g) (hN : hs_gN g ≤ 2560) (hsc : hs_Sc g μ) (hk : ∀ μ2 E2 t2, hx_I (n + 1) E2 t2 μ2 → hs_WS g p l e R s m args below meth c cells slots 8 Q 1752 (hl_L (nI i)) [] μ2) : hs_WS g p l e R s m args below meth c cells slots 8 Q 538 (hl_L (nI i)) [] μ := by
  obtain ⟨v, μ1, μ2, e1, e2, E2, t2, h2⟩ := hx_scale 198 h (hs_gX g (i + 1)) (hs_gX g (i + 2))
  have e1 : hc_H_scale 200 (hs_gX g (i + 1)) (hs_gX g (i + 2)) μ = some (some (vI v), μ1) := e1
  have e2 : hc_M_scale 200 (hs_gX g (i + 1)) (hs_gX g (i + 2)) μ1 = some (some (vI v), μ2) := e2
  have a1 := hl_arg hsc (i := i) (k := 1) (by omega) hN
  have a2 := hl_arg hsc (i := i) (k := 2) (by omega) hN
  refine hg_sound C hl_ck (stops := [554]) 60 538 (hl_L (nI i)) [] μ 554 (hl_L (nI i)) [vI v] μ1 ?_ ?_
  · show hl_go 200 [554] 60 538 (hl_L (nI i)) [] μ = _
    rw [hl_a_8, if_pos (show hs_in (nI i + (1 : Int32)) _ = true from a1.1), if_pos (show hs_in (nI i + (2 : Int32)) _ = true from a2.1), show μ.1 70 0 (nI i + (1 : Int32)).toNatClampNeg = hs_gX g (i + 1) from a1.2, show μ.1 70 0 (nI i + (2 : Int32)).toNatClampNeg = hs_gX g (i + 2) from a2.2, e1, hx_bI]
  refine hl_sc (d := 200) (own := 13) (cc := code) (fun hsc1 => ?_)
  have b1 := hl_arg hsc1 (i := i) (k := 1) (by omega) hN
  have b2 := hl_arg hsc1 (i := i) (k := 2) (by omega) hN
  refine hg_sound C hl_ck (stops := [1752]) 60 554 (hl_L (nI i)) [vI v] μ1 1752 (hl_L (nI i)) [] μ2 ?_ (hk μ2 E2 t2 h2)
  show hl_go 200 [1752] 60 554 (hl_L (nI i)) [vI v] μ1 = _
  rw [hl_b_8, if_pos (show hs_in (nI i + (1 : Int32)) _ = true from b1.1), if_pos (show hs_in (nI i + (2 : Int32)) _ = true from b2.1), show μ1.1 70 0 (nI i + (1 : Int32)).toNatClampNeg = hs_gX g (i + 1) from b1.2, show μ1.1 70 0 (nI i + (2 : Int32)).toNatClampNeg = hs_gX g (i + 2) from b2.2, e2, hx_bI, if_pos rfl]
theorem hl_op_9 {g : hs_G} {p : Program} {l : Launch} {e : Env} {R : Room} {s : State} {m : MethodId} {args : Array Value} {below : List Frame} {meth : Method} {c : Code} {cells slots : Nat} {Q : State → Prop} (C : hs_Ctx g p l R s m args c cells slots 13 code 8 (hs_call 200)) {n : Nat} (hn : n ≤ 512) {E : hx_Env} {t : hx_St} {μ : hs_M} (h : hx_I n E t μ) {i : Nat} (hi : i + 5 ≤ hs_gN g) (hN : hs_gN g ≤ 2560) (hsc : hs_Sc g μ) (hk : ∀ μ2 E2 t2, hx_I (n + 1) E2 t2 μ2 → hs_WS g p l e R s m args below meth c cells slots 8 Q 1752 (hl_L (nI i)) [] μ2) : hs_WS g p l e R s m args below meth c cells slots 8 Q 575 (hl_L (nI i)) [] μ := by
  obtain ⟨v, μ1, μ2, e1, e2, E2, t2, h2⟩ := hx_sheet 197 h (hs_gX g (i + 1)) (hs_gX g (i + 2)) (hs_gX g (i + 3)) (hs_gX g (i + 4))
  have e1 : hc_H_sheet 200 (hs_gX g (i + 1)) (hs_gX g (i + 2)) (hs_gX g (i + 3)) (hs_gX g (i + 4)) μ = some (some (vI v), μ1) := e1
  have e2 : hc_M_sheet 200 (hs_gX g (i + 1)) (hs_gX g (i + 2)) (hs_gX g (i + 3)) (hs_gX g (i + 4)) μ1 = some (some (vI v), μ2) := e2
  have a1 := hl_arg hsc (i := i) (k := 1) (by omega) hN
  have a2 := hl_arg hsc (i := i) (k := 2) (by omega) hN
  have a3 := hl_arg hsc (i := i) (k := 3) (by omega) hN
  have a4 := hl_arg hsc (i := i) (k := 4) (by omega) hN
  refine hg_sound C hl_ck (stops := [603]) 60 575 (hl_L (nI i)) [] μ 603 (hl_L (nI i)) [vI v] μ1 ?_ ?_
  · show hl_go 200 [603] 60 575 (hl_L (nI i)) [] μ = _
    rw [hl_a_9, if_pos (show hs_in (nI i + (1 : Int32)) _ = true from a1.1), if_pos (show hs_in (nI i + (2 : Int32)) _ = true from a2.1), if_pos (show hs_in (nI i + (3 : Int32)) _ = true from a3.1), if_pos (show hs_in (nI i + (4 : Int32)) _ = true from a4.1), show μ.1 70 0 (nI i + (1 : Int32)).toNatClampNeg = hs_gX g (i + 1) from a1.2, show μ.1 70 0 (nI i + (2 : Int32)).toNatClampNeg = hs_gX g (i + 2) from a2.2, show μ.1 70 0 (nI i + (3 : Int32)).toNatClampNeg = hs_gX g (i + 3) from a3.2, show μ.1 70 0 (nI i + (4 : Int32)).toNatClampNeg = hs_gX g (i + 4) from a4.2, e1, hx_bI]
  refine hl_sc (d := 200) (own := 13) (cc := code) (fun hsc1 => ?_)
  have b1 := hl_arg hsc1 (i := i) (k := 1) (by omega) hN
  have b2 := hl_arg hsc1 (i := i) (k := 2) (by omega) hN
  have b3 := hl_arg hsc1 (i := i) (k := 3) (by omega) hN
  have b4 := hl_arg hsc1 (i := i) (k := 4) (by omega) hN
  refine hg_sound C hl_ck (stops := [1752]) 60 603 (hl_L (nI i)) [vI v] μ1 1752 (hl_L (nI i)) [] μ2 ?_ (hk μ2 E2 t2 h2)
  show hl_go 200 [1752] 60 603 (hl_L (nI i)) [vI v] μ1 = _
  rw [hl_b_9, if_pos (show hs_in (nI i + (1 : Int32)) _ = true from b1.1), if_pos (show hs_in (nI i + (2 : Int32)) _ = true from b2.1), if_pos (show hs_in (nI i + (3 : Int32)) _ = true from b3.1), if_pos (show hs_in (nI i + (4 : Int32)) _ = true from b4.1), show μ1.1 70 0 (nI i + (1 : Int32)).toNatClampNeg = hs_gX g (i + 1) from b1.2, show μ1.1 70 0 (nI i + (2 : Int32)).toNatClampNeg = hs_gX g (i + 2) from b2.2, show μ1.1 70 0 (nI i + (3 : Int32)).toNatClampNeg = hs_gX g (i + 3) from b3.2, show μ1.1 70 0 (nI i + (4 : Int32)).toNatClampNeg = hs_gX g (i + 4) from b4.2, e2, hx_bI, if_pos rfl]
theorem hl_op_10 {g : hs_G} {p : Program} {l : Launch} {e : Env} {R : Room} {s : State} {m : MethodId} {args : Array Value} {below : List Frame} {meth : Method} {c : Code} {cells slots : Nat} {Q : State → Prop} (C : hs_Ctx g p l R s m args c cells slots 13 code 8 (hs_call 200)) {n : Nat} (hn : n ≤ 512) {E : hx_Env} {t : hx_St} {μ : hs_M} (h : hx_I n E t μ) {i : Nat} (hi : i + 5 ≤ hs_gN g) (hN : hs_gN g ≤ 2560) (hsc : hs_Sc g μ) (hk : ∀ μ2 E2 t2, hx_I (n + 1) E2 t2 μ2 → hs_WS g p l e R s m args below meth c cells slots 8 Q 1752 (hl_L (nI i)) [] μ2) : hs_WS g p l e R s m args below meth c cells slots 8 Q 636 (hl_L (nI i)) [] μ := by
  obtain ⟨v, μ1, μ2, e1, e2, E2, t2, h2⟩ := hx_stand 194 hn h (hs_gX g (i + 1))
  have e1 : hc_H_stand 200 (hs_gX g (i + 1)) μ = some (some (vI v), μ1) := e1
  have e2 : hc_M_stand 200 (hs_gX g (i + 1)) μ1 = some (some (vI v), μ2) := e2
  have a1 := hl_arg hsc (i := i) (k := 1) (by omega) hN
  refine hg_sound C hl_ck (stops := [646]) 60 636 (hl_L (nI i)) [] μ 646 (hl_L (nI i)) [vI v] μ1 ?_ ?_
  · show hl_go 200 [646] 60 636 (hl_L (nI i)) [] μ = _
    rw [hl_a_10, if_pos (show hs_in (nI i + (1 : Int32)) _ = true from a1.1), show μ.1 70 0 (nI i + (1 : Int32)).toNatClampNeg = hs_gX g (i + 1) from a1.2, e1, hx_bI]
  refine hl_sc (d := 200) (own := 13) (cc := code) (fun hsc1 => ?_)
  have b1 := hl_arg hsc1 (i := i) (k := 1) (by omega) hN
  refine hg_sound C hl_ck (stops := [1752]) 60 646 (hl_L (nI i)) [vI v] μ1 1752 (hl_L (nI i)) [] μ2 ?_ (hk μ2 E2 t2 h2)
  show hl_go 200 [1752] 60 646 (hl_L (nI i)) [vI v] μ1 = _
  rw [hl_b_10, if_pos (show hs_in (nI i + (1 : Int32)) _ = true from b1.1), show μ1.1 70 0 (nI i + (1 : Int32)).toNatClampNeg = hs_gX g (i + 1) from b1.2, e2, hx_bI, if_pos rfl]
theorem hl_op_11 {g : hs_G} {p : Program} {l : Launch} {e : Env} {R : Room} {s : State} {m : MethodId} {args : Array Value} {below : List Frame} {meth : Method} {c : Code} {cells slots : Nat} {Q : State → Prop} (C : hs_Ctx g p l R s m args c cells slots 13 code 8 (hs_call 200)) {n : Nat} (hn : n ≤ 512) {E : hx_Env} {t : hx_St} {μ : hs_M} (h : hx_I n E t μ) {i : Nat} (hi : i + 5 ≤ hs_gN g) (hN : hs_gN g ≤ 2560) (hsc : hs_Sc g μ) (hk : ∀ μ2 E2 t2, hx_I (n + 1) E2 t2 μ2 → hs_WS g p l e R s m args below meth c cells slots 8 Q 1752 (hl_L (nI i)) [] μ2) : hs_WS g p l e R s m args below meth c cells slots 8 Q 661 (hl_L (nI i)) [] μ := by
  obtain ⟨v, μ1, μ2, e1, e2, E2, t2, h2⟩ := hx_weeks' 194 hn h (hs_gX g (i + 1))
  have e1 : hc_H_weeks 200 (hs_gX g (i + 1)) μ = some (some (vI v), μ1) := e1
  have e2 : hc_M_weeks 200 (hs_gX g (i + 1)) μ1 = some (some (vI v), μ2) := e2
  have a1 := hl_arg hsc (i := i) (k := 1) (by omega) hN
  refine hg_sound C hl_ck (stops := [671]) 60 661 (hl_L (nI i)) [] μ 671 (hl_L (nI i)) [vI v] μ1 ?_ ?_
  · show hl_go 200 [671] 60 661 (hl_L (nI i)) [] μ = _
    rw [hl_a_11, if_pos (show hs_in (nI i + (1 : Int32)) _ = true from a1.1), show μ.1 70 0 (nI i + (1 : Int32)).toNatClampNeg = hs_gX g (i + 1) from a1.2, e1, hx_bI]
  refine hl_sc (d := 200) (own := 13) (cc := code) (fun hsc1 => ?_)
  have b1 := hl_arg hsc1 (i := i) (k := 1) (by omega) hN
  refine hg_sound C hl_ck (stops := [1752]) 60 671 (hl_L (nI i)) [vI v] μ1 1752 (hl_L (nI i)) [] μ2 ?_ (hk μ2 E2 t2 h2)
  show hl_go 200 [1752] 60 671 (hl_L (nI i)) [vI v] μ1 = _
  rw [hl_b_11, if_pos (show hs_in (nI i + (1 : Int32)) _ = true from b1.1), show μ1.1 70 0 (nI i + (1 : Int32)).toNatClampNeg = hs_gX g (i + 1) from b1.2, e2, hx_bI, if_pos rfl]
theorem hl_op_12 {g : hs_G} {p : Program} {l : Launch} {e : Env} {R : Room} {s : State} {m : MethodId} {args : Array Value} {below : List Frame} {meth : Method} {c : Code} {cells slots : Nat} {Q : State → Prop} (C : hs_Ctx g p l R s m args c cells slots 13 code 8 (hs_call 200)) {n : Nat} (hn : n ≤ 512) {E : hx_Env} {t : hx_St} {μ : hs_M} (h : hx_I n E t μ) {i : Nat} (hi : i + 5 ≤ hs_gN g) (hN : hs_gN g ≤ 2560) (hsc : hs_Sc g μ) (hk : ∀ μ2 E2 t2, hx_I (n + 1) E2 t2 μ2 → hs_WS g p l e R s m args below meth c cells slots 8 Q 1752 (hl_L (nI i)) [] μ2) : hs_WS g p l e R s m args below meth c cells slots 8 Q 686 (hl_L (nI i)) [] μ := by
  obtain ⟨v, μ1, μ2, e1, e2, E2, t2, h2⟩ := hx_year 193 hn h
  have e1 : hc_H_year 200  μ = some (some (vI v), μ1) := e1
  have e2 : hc_M_year 200  μ1 = some (some (vI v), μ2) := e2
  refine hg_sound C hl_ck (stops := [690]) 60 686 (hl_L (nI i)) [] μ 690 (hl_L (nI i)) [vI v] μ1 ?_ ?_
  · show hl_go 200 [690] 60 686 (hl_L (nI i)) [] μ = _
    rw [hl_a_12, e1, hx_bI]
  refine hl_sc (d := 200) (own := 13) (cc := code) (fun hsc1 => ?_)
  refine hg_sound C hl_ck (stops := [1752]) 60 690 (hl_L (nI i)) [vI v] μ1 1752 (hl_L (nI i)) [] μ2 ?_ (hk μ2 E2 t2 h2)
  show hl_go 200 [1752] 60 690 (hl_L (nI i)) [vI v] μ1 = _
  rw [hl_b_12, e2, hx_bI, if_pos rfl]
theorem hl_op_13 {g : hs_G} {p : Program} {l : Launch} {e : Env} {R : Room} {s : State} {m : MethodId} {args : Array Value} {below : List Frame} {meth : Method} {c : Code} {cells slots : Nat} {Q : State → Prop} (C : hs_Ctx g p l R s m args c cells slots 13 code 8 (hs_call 200)) {n : Nat} (hn : n ≤ 512) {E : hx_Env} {t : hx_St} {μ : hs_M} (h : hx_I n E t μ) {i : Nat} (hi : i + 5 ≤ hs_gN g) (hN : hs_gN g ≤ 2560) (hsc : hs_Sc g μ) (hk : ∀ μ2 E2 t2, hx_I (n + 1) E2 t2 μ2 → hs_WS g p l e R s m args below meth c cells slots 8 Q 1752 (hl_L (nI i)) [] μ2) : hs_WS g p l e R s m args below meth c cells slots 8 Q 699 (hl_L (nI i)) [] μ := by
  obtain ⟨v, μ1, μ2, e1, e2, E2, t2, h2⟩ := hx_law 196 h
  have e1 : hc_H_law 200  μ = some (some (vI v), μ1) := e1
  have e2 : hc_M_law 200  μ1 = some (some (vI v), μ2) := e2
  refine hg_sound C hl_ck (stops := [703]) 60 699 (hl_L (nI i)) [] μ 703 (hl_L (nI i)) [vI v] μ1 ?_ ?_
  · show hl_go 200 [703] 60 699 (hl_L (nI i)) [] μ = _
    rw [hl_a_13, e1, hx_bI]
  refine hl_sc (d := 200) (own := 13) (cc := code) (fun hsc1 => ?_)
  refine hg_sound C hl_ck (stops := [1752]) 60 703 (hl_L (nI i)) [vI v] μ1 1752 (hl_L (nI i)) [] μ2 ?_ (hk μ2 E2 t2 h2)
  show hl_go 200 [1752] 60 703 (hl_L (nI i)) [vI v] μ1 = _
  rw [hl_b_13, e2, hx_bI, if_pos rfl]
theorem hl_op_15 {g : hs_G} {p : Program} {l : Launch} {e : Env} {R : Room} {s : State} {m : MethodId} {args : Array Value} {below : List Frame} {meth : Method} {c : Code} {cells slots : Nat} {Q : State → Prop} (C : hs_Ctx g p l R s m args c cells slots 13 code 8 (hs_call 200)) {n : Nat} (hn : n ≤ 512) {E : hx_Env} {t : hx_St} {μ : hs_M} (h : hx_I n E t μ) {i : Nat} (hi : i + 5 ≤ hs_gN g) (hN : hs_gN g ≤ 2560) (hsc : hs_Sc g μ) (hk : ∀ μ2 E2 t2, hx_I (n + 1) E2 t2 μ2 → hs_WS g p l e R s m args below meth c cells slots 8 Q 1752 (hl_L (nI i)) [] μ2) : hs_WS g p l e R s m args below meth c cells slots 8 Q 780 (hl_L (nI i)) [] μ := by
  obtain ⟨v, μ1, μ2, e1, e2, E2, t2, h2⟩ := hx_feed 195 h (hs_gX g (i + 1)) (hs_gX g (i + 2))
  have e1 : hc_H_feed 200 (hs_gX g (i + 1)) (hs_gX g (i + 2)) μ = some (some (vI v), μ1) := e1
  have e2 : hc_M_feed 200 (hs_gX g (i + 1)) (hs_gX g (i + 2)) μ1 = some (some (vI v), μ2) := e2
  have a1 := hl_arg hsc (i := i) (k := 1) (by omega) hN
  have a2 := hl_arg hsc (i := i) (k := 2) (by omega) hN
  refine hg_sound C hl_ck (stops := [796]) 60 780 (hl_L (nI i)) [] μ 796 (hl_L (nI i)) [vI v] μ1 ?_ ?_
  · show hl_go 200 [796] 60 780 (hl_L (nI i)) [] μ = _
    rw [hl_a_15, if_pos (show hs_in (nI i + (1 : Int32)) _ = true from a1.1), if_pos (show hs_in (nI i + (2 : Int32)) _ = true from a2.1), show μ.1 70 0 (nI i + (1 : Int32)).toNatClampNeg = hs_gX g (i + 1) from a1.2, show μ.1 70 0 (nI i + (2 : Int32)).toNatClampNeg = hs_gX g (i + 2) from a2.2, e1, hx_bI]
  refine hl_sc (d := 200) (own := 13) (cc := code) (fun hsc1 => ?_)
  have b1 := hl_arg hsc1 (i := i) (k := 1) (by omega) hN
  have b2 := hl_arg hsc1 (i := i) (k := 2) (by omega) hN
  refine hg_sound C hl_ck (stops := [1752]) 60 796 (hl_L (nI i)) [vI v] μ1 1752 (hl_L (nI i)) [] μ2 ?_ (hk μ2 E2 t2 h2)
  show hl_go 200 [1752] 60 796 (hl_L (nI i)) [vI v] μ1 = _
  rw [hl_b_15, if_pos (show hs_in (nI i + (1 : Int32)) _ = true from b1.1), if_pos (show hs_in (nI i + (2 : Int32)) _ = true from b2.1), show μ1.1 70 0 (nI i + (1 : Int32)).toNatClampNeg = hs_gX g (i + 1) from b1.2, show μ1.1 70 0 (nI i + (2 : Int32)).toNatClampNeg = hs_gX g (i + 2) from b2.2, e2, hx_bI, if_pos rfl]
theorem hl_op_16 {g : hs_G} {p : Program} {l : Launch} {e : Env} {R : Room} {s : State} {m : MethodId} {args : Array Value} {below : List Frame} {meth : Method} {c : Code} {cells slots : Nat} {Q : State → Prop} (C : hs_Ctx g p l R s m args c cells slots 13 code 8 (hs_call 200)) {n : Nat} (hn : n ≤ 512) {E : hx_Env} {t : hx_St} {μ : hs_M} (h : hx_I n E t μ) {i : Nat} (hi : i + 5 ≤ hs_gN g) (hN : hs_gN g ≤ 2560) (hsc : hs_Sc g μ) (hk : ∀ μ2 E2 t2, hx_I (n + 1) E2 t2 μ2 → hs_WS g p l e R s m args below meth c cells slots 8 Q 1752 (hl_L (nI i)) [] μ2) : hs_WS g p l e R s m args below meth c cells slots 8 Q 817 (hl_L (nI i)) [] μ := by
  obtain ⟨v, μ1, μ2, e1, e2, E2, t2, h2⟩ := hx_fast 195 h (hs_gX g (i + 1)) (hs_gX g (i + 2))
  have e1 : hc_H_fast 200 (hs_gX g (i + 1)) (hs_gX g (i + 2)) μ = some (some (vI v), μ1) := e1
  have e2 : hc_M_fast 200 (hs_gX g (i + 1)) (hs_gX g (i + 2)) μ1 = some (some (vI v), μ2) := e2
  have a1 := hl_arg hsc (i := i) (k := 1) (by omega) hN
  have a2 := hl_arg hsc (i := i) (k := 2) (by omega) hN
  refine hg_sound C hl_ck (stops := [833]) 60 817 (hl_L (nI i)) [] μ 833 (hl_L (nI i)) [vI v] μ1 ?_ ?_
  · show hl_go 200 [833] 60 817 (hl_L (nI i)) [] μ = _
    rw [hl_a_16, if_pos (show hs_in (nI i + (1 : Int32)) _ = true from a1.1), if_pos (show hs_in (nI i + (2 : Int32)) _ = true from a2.1), show μ.1 70 0 (nI i + (1 : Int32)).toNatClampNeg = hs_gX g (i + 1) from a1.2, show μ.1 70 0 (nI i + (2 : Int32)).toNatClampNeg = hs_gX g (i + 2) from a2.2, e1, hx_bI]
  refine hl_sc (d := 200) (own := 13) (cc := code) (fun hsc1 => ?_)
  have b1 := hl_arg hsc1 (i := i) (k := 1) (by omega) hN
  have b2 := hl_arg hsc1 (i := i) (k := 2) (by omega) hN
  refine hg_sound C hl_ck (stops := [1752]) 60 833 (hl_L (nI i)) [vI v] μ1 1752 (hl_L (nI i)) [] μ2 ?_ (hk μ2 E2 t2 h2)
  show hl_go 200 [1752] 60 833 (hl_L (nI i)) [vI v] μ1 = _
  rw [hl_b_16, if_pos (show hs_in (nI i + (1 : Int32)) _ = true from b1.1), if_pos (show hs_in (nI i + (2 : Int32)) _ = true from b2.1), show μ1.1 70 0 (nI i + (1 : Int32)).toNatClampNeg = hs_gX g (i + 1) from b1.2, show μ1.1 70 0 (nI i + (2 : Int32)).toNatClampNeg = hs_gX g (i + 2) from b2.2, e2, hx_bI, if_pos rfl]
theorem hl_op_17 {g : hs_G} {p : Program} {l : Launch} {e : Env} {R : Room} {s : State} {m : MethodId} {args : Array Value} {below : List Frame} {meth : Method} {c : Code} {cells slots : Nat} {Q : State → Prop} (C : hs_Ctx g p l R s m args c cells slots 13 code 8 (hs_call 200)) {n : Nat} (hn : n ≤ 512) {E : hx_Env} {t : hx_St} {μ : hs_M} (h : hx_I n E t μ) {i : Nat} (hi : i + 5 ≤ hs_gN g) (hN : hs_gN g ≤ 2560) (hsc : hs_Sc g μ) (hk : ∀ μ2 E2 t2, hx_I (n + 1) E2 t2 μ2 → hs_WS g p l e R s m args below meth c cells slots 8 Q 1752 (hl_L (nI i)) [] μ2) : hs_WS g p l e R s m args below meth c cells slots 8 Q 854 (hl_L (nI i)) [] μ := by
  obtain ⟨v, μ1, μ2, e1, e2, E2, t2, h2⟩ := hx_dies 196 hn h (hs_gX g (i + 1))
  have e1 : hc_H_dies 200 (hs_gX g (i + 1)) μ = some (some (vI v), μ1) := e1
  have e2 : hc_M_dies 200 (hs_gX g (i + 1)) μ1 = some (some (vI v), μ2) := e2
  have a1 := hl_arg hsc (i := i) (k := 1) (by omega) hN
  refine hg_sound C hl_ck (stops := [864]) 60 854 (hl_L (nI i)) [] μ 864 (hl_L (nI i)) [vI v] μ1 ?_ ?_
  · show hl_go 200 [864] 60 854 (hl_L (nI i)) [] μ = _
    rw [hl_a_17, if_pos (show hs_in (nI i + (1 : Int32)) _ = true from a1.1), show μ.1 70 0 (nI i + (1 : Int32)).toNatClampNeg = hs_gX g (i + 1) from a1.2, e1, hx_bI]
  refine hl_sc (d := 200) (own := 13) (cc := code) (fun hsc1 => ?_)
  have b1 := hl_arg hsc1 (i := i) (k := 1) (by omega) hN
  refine hg_sound C hl_ck (stops := [1752]) 60 864 (hl_L (nI i)) [vI v] μ1 1752 (hl_L (nI i)) [] μ2 ?_ (hk μ2 E2 t2 h2)
  show hl_go 200 [1752] 60 864 (hl_L (nI i)) [vI v] μ1 = _
  rw [hl_b_17, if_pos (show hs_in (nI i + (1 : Int32)) _ = true from b1.1), show μ1.1 70 0 (nI i + (1 : Int32)).toNatClampNeg = hs_gX g (i + 1) from b1.2, e2, hx_bI, if_pos rfl]
theorem hl_op_18 {g : hs_G} {p : Program} {l : Launch} {e : Env} {R : Room} {s : State} {m : MethodId} {args : Array Value} {below : List Frame} {meth : Method} {c : Code} {cells slots : Nat} {Q : State → Prop} (C : hs_Ctx g p l R s m args c cells slots 13 code 8 (hs_call 200)) {n : Nat} (hn : n ≤ 512) {E : hx_Env} {t : hx_St} {μ : hs_M} (h : hx_I n E t μ) {i : Nat} (hi : i + 5 ≤ hs_gN g) (hN : hs_gN g ≤ 2560) (hsc : hs_Sc g μ) (hk : ∀ μ2 E2 t2, hx_I (n + 1) E2 t2 μ2 → hs_WS g p l e R s m args below meth c cells slots 8 Q 1752 (hl_L (nI i)) [] μ2) : hs_WS g p l e R s m args below meth c cells slots 8 Q 879 (hl_L (nI i)) [] μ := by
  obtain ⟨v, μ1, μ2, e1, e2, E2, t2, h2⟩ := hx_undo 196 h
  have e1 : hc_H_undo 200  μ = some (some (vI v), μ1) := e1
  have e2 : hc_M_undo 200  μ1 = some (some (vI v), μ2) := e2
  refine hg_sound C hl_ck (stops := [883]) 60 879 (hl_L (nI i)) [] μ 883 (hl_L (nI i)) [vI v] μ1 ?_ ?_
  · show hl_go 200 [883] 60 879 (hl_L (nI i)) [] μ = _
    rw [hl_a_18, e1, hx_bI]
  refine hl_sc (d := 200) (own := 13) (cc := code) (fun hsc1 => ?_)
  refine hg_sound C hl_ck (stops := [1752]) 60 883 (hl_L (nI i)) [vI v] μ1 1752 (hl_L (nI i)) [] μ2 ?_ (hk μ2 E2 t2 h2)
  show hl_go 200 [1752] 60 883 (hl_L (nI i)) [vI v] μ1 = _
  rw [hl_b_18, e2, hx_bI, if_pos rfl]
theorem hl_op_19 {g : hs_G} {p : Program} {l : Launch} {e : Env} {R : Room} {s : State} {m : MethodId} {args : Array Value} {below : List Frame} {meth : Method} {c : Code} {cells slots : Nat} {Q : State → Prop} (C : hs_Ctx g p l R s m args c cells slots 13 code 8 (hs_call 200)) {n : Nat} (hn : n ≤ 512) {E : hx_Env} {t : hx_St} {μ : hs_M} (h : hx_I n E t μ) {i : Nat} (hi : i + 5 ≤ hs_gN g) (hN : hs_gN g ≤ 2560) (hsc : hs_Sc g μ) (hk : ∀ μ2 E2 t2, hx_I (n + 1) E2 t2 μ2 → hs_WS g p l e R s m args below meth c cells slots 8 Q 1752 (hl_L (nI i)) [] μ2) : hs_WS g p l e R s m args below meth c cells slots 8 Q 892 (hl_L (nI i)) [] μ := by
  obtain ⟨v, μ1, μ2, e1, e2, E2, t2, h2⟩ := hx_served 198 hn h (hs_gX g (i + 1))
  have e1 : hc_H_served 200 (hs_gX g (i + 1)) μ = some (some (vI v), μ1) := e1
  have e2 : hc_M_served 200 (hs_gX g (i + 1)) μ1 = some (some (vI v), μ2) := e2
  have a1 := hl_arg hsc (i := i) (k := 1) (by omega) hN
  refine hg_sound C hl_ck (stops := [902]) 60 892 (hl_L (nI i)) [] μ 902 (hl_L (nI i)) [vI v] μ1 ?_ ?_
  · show hl_go 200 [902] 60 892 (hl_L (nI i)) [] μ = _
    rw [hl_a_19, if_pos (show hs_in (nI i + (1 : Int32)) _ = true from a1.1), show μ.1 70 0 (nI i + (1 : Int32)).toNatClampNeg = hs_gX g (i + 1) from a1.2, e1, hx_bI]
  refine hl_sc (d := 200) (own := 13) (cc := code) (fun hsc1 => ?_)
  have b1 := hl_arg hsc1 (i := i) (k := 1) (by omega) hN
  refine hg_sound C hl_ck (stops := [1752]) 60 902 (hl_L (nI i)) [vI v] μ1 1752 (hl_L (nI i)) [] μ2 ?_ (hk μ2 E2 t2 h2)
  show hl_go 200 [1752] 60 902 (hl_L (nI i)) [vI v] μ1 = _
  rw [hl_b_19, if_pos (show hs_in (nI i + (1 : Int32)) _ = true from b1.1), show μ1.1 70 0 (nI i + (1 : Int32)).toNatClampNeg = hs_gX g (i + 1) from b1.2, e2, hx_bI, if_pos rfl]
theorem hl_op_20 {g : hs_G} {p : Program} {l : Launch} {e : Env} {R : Room} {s : State} {m : MethodId} {args : Array Value} {below : List Frame} {meth : Method} {c : Code} {cells slots : Nat} {Q : State → Prop} (C : hs_Ctx g p l R s m args c cells slots 13 code 8 (hs_call 200)) {n : Nat} (hn : n ≤ 512) {E : hx_Env} {t : hx_St} {μ : hs_M} (h : hx_I n E t μ) {i : Nat} (hi : i + 5 ≤ hs_gN g) (hN : hs_gN g ≤ 2560) (hsc : hs_Sc g μ) (hk : ∀ μ2 E2 t2, hx_I (n + 1) E2 t2 μ2 → hs_WS g p l e R s m args below meth c cells slots 8 Q 1752 (hl_L (nI i)) [] μ2) : hs_WS g p l e R s m args below meth c cells slots 8 Q 917 (hl_L (nI i)) [] μ := by
  obtain ⟨v, μ1, μ2, e1, e2, E2, t2, h2⟩ := hx_later 193 hn h (hs_gX g (i + 1)) (hs_gX g (i + 2))
  have e1 : hc_H_later 200 (hs_gX g (i + 1)) (hs_gX g (i + 2)) μ = some (some (vI v), μ1) := e1
  have e2 : hc_M_later 200 (hs_gX g (i + 1)) (hs_gX g (i + 2)) μ1 = some (some (vI v), μ2) := e2
  have a1 := hl_arg hsc (i := i) (k := 1) (by omega) hN
  have a2 := hl_arg hsc (i := i) (k := 2) (by omega) hN
  refine hg_sound C hl_ck (stops := [933]) 60 917 (hl_L (nI i)) [] μ 933 (hl_L (nI i)) [vI v] μ1 ?_ ?_
  · show hl_go 200 [933] 60 917 (hl_L (nI i)) [] μ = _
    rw [hl_a_20, if_pos (show hs_in (nI i + (1 : Int32)) _ = true from a1.1), if_pos (show hs_in (nI i + (2 : Int32)) _ = true from a2.1), show μ.1 70 0 (nI i + (1 : Int32)).toNatClampNeg = hs_gX g (i + 1) from a1.2, show μ.1 70 0 (nI i + (2 : Int32)).toNatClampNeg = hs_gX g (i + 2) from a2.2, e1, hx_bI]
  refine hl_sc (d := 200) (own := 13) (cc := code) (fun hsc1 => ?_)
  have b1 := hl_arg hsc1 (i := i) (k := 1) (by omega) hN
  have b2 := hl_arg hsc1 (i := i) (k := 2) (by omega) hN
  refine hg_sound C hl_ck (stops := [1752]) 60 933 (hl_L (nI i)) [vI v] μ1 1752 (hl_L (nI i)) [] μ2 ?_ (hk μ2 E2 t2 h2)
  show hl_go 200 [1752] 60 933 (hl_L (nI i)) [vI v] μ1 = _
  rw [hl_b_20, if_pos (show hs_in (nI i + (1 : Int32)) _ = true from b1.1), if_pos (show hs_in (nI i + (2 : Int32)) _ = true from b2.1), show μ1.1 70 0 (nI i + (1 : Int32)).toNatClampNeg = hs_gX g (i + 1) from b1.2, show μ1.1 70 0 (nI i + (2 : Int32)).toNatClampNeg = hs_gX g (i + 2) from b2.2, e2, hx_bI, if_pos rfl]
theorem hl_op_21 {g : hs_G} {p : Program} {l : Launch} {e : Env} {R : Room} {s : State} {m : MethodId} {args : Array Value} {below : List Frame} {meth : Method} {c : Code} {cells slots : Nat} {Q : State → Prop} (C : hs_Ctx g p l R s m args c cells slots 13 code 8 (hs_call 200)) {n : Nat} (hn : n ≤ 512) {E : hx_Env} {t : hx_St} {μ : hs_M} (h : hx_I n E t μ) {i : Nat} (hi : i + 5 ≤ hs_gN g) (hN : hs_gN g ≤ 2560) (hsc : hs_Sc g μ) (hk : ∀ μ2 E2 t2, hx_I (n + 1) E2 t2 μ2 → hs_WS g p l e R s m args below meth c cells slots 8 Q 1752 (hl_L (nI i)) [] μ2) : hs_WS g p l e R s m args below meth c cells slots 8 Q 954 (hl_L (nI i)) [] μ := by
  obtain ⟨v, μ1, μ2, e1, e2, E2, t2, h2⟩ := hx_then 193 hn h (hs_gX g (i + 1))
  have e1 : hc_H_then 200 (hs_gX g (i + 1)) μ = some (some (vI v), μ1) := e1
  have e2 : hc_M_then 200 (hs_gX g (i + 1)) μ1 = some (some (vI v), μ2) := e2
  have a1 := hl_arg hsc (i := i) (k := 1) (by omega) hN
  refine hg_sound C hl_ck (stops := [964]) 60 954 (hl_L (nI i)) [] μ 964 (hl_L (nI i)) [vI v] μ1 ?_ ?_
  · show hl_go 200 [964] 60 954 (hl_L (nI i)) [] μ = _
    rw [hl_a_21, if_pos (show hs_in (nI i + (1 : Int32)) _ = true from a1.1), show μ.1 70 0 (nI i + (1 : Int32)).toNatClampNeg = hs_gX g (i + 1) from a1.2, e1, hx_bI]
  refine hl_sc (d := 200) (own := 13) (cc := code) (fun hsc1 => ?_)
  have b1 := hl_arg hsc1 (i := i) (k := 1) (by omega) hN
  refine hg_sound C hl_ck (stops := [1752]) 60 964 (hl_L (nI i)) [vI v] μ1 1752 (hl_L (nI i)) [] μ2 ?_ (hk μ2 E2 t2 h2)
  show hl_go 200 [1752] 60 964 (hl_L (nI i)) [vI v] μ1 = _
  rw [hl_b_21, if_pos (show hs_in (nI i + (1 : Int32)) _ = true from b1.1), show μ1.1 70 0 (nI i + (1 : Int32)).toNatClampNeg = hs_gX g (i + 1) from b1.2, e2, hx_bI, if_pos rfl]
theorem hl_op_22 {g : hs_G} {p : Program} {l : Launch} {e : Env} {R : Room} {s : State} {m : MethodId} {args : Array Value} {below : List Frame} {meth : Method} {c : Code} {cells slots : Nat} {Q : State → Prop} (C : hs_Ctx g p l R s m args c cells slots 13 code 8 (hs_call 200)) {n : Nat} (hn : n ≤ 512) {E : hx_Env} {t : hx_St} {μ : hs_M} (h : hx_I n E t μ) {i : Nat} (hi : i + 5 ≤ hs_gN g) (hN : hs_gN g ≤ 2560) (hsc : hs_Sc g μ) (hk : ∀ μ2 E2 t2, hx_I (n + 1) E2 t2 μ2 → hs_WS g p l e R s m args below meth c cells slots 8 Q 1752 (hl_L (nI i)) [] μ2) : hs_WS g p l e R s m args below meth c cells slots 8 Q 979 (hl_L (nI i)) [] μ := by
  obtain ⟨v, μ1, μ2, e1, e2, E2, t2, h2⟩ := hx_soonest 193 hn h (hs_gX g (i + 1))
  have e1 : hc_H_soonest 200 (hs_gX g (i + 1)) μ = some (some (vI v), μ1) := e1
  have e2 : hc_M_soonest 200 (hs_gX g (i + 1)) μ1 = some (some (vI v), μ2) := e2
  have a1 := hl_arg hsc (i := i) (k := 1) (by omega) hN
  refine hg_sound C hl_ck (stops := [989]) 60 979 (hl_L (nI i)) [] μ 989 (hl_L (nI i)) [vI v] μ1 ?_ ?_
  · show hl_go 200 [989] 60 979 (hl_L (nI i)) [] μ = _
    rw [hl_a_22, if_pos (show hs_in (nI i + (1 : Int32)) _ = true from a1.1), show μ.1 70 0 (nI i + (1 : Int32)).toNatClampNeg = hs_gX g (i + 1) from a1.2, e1, hx_bI]
  refine hl_sc (d := 200) (own := 13) (cc := code) (fun hsc1 => ?_)
  have b1 := hl_arg hsc1 (i := i) (k := 1) (by omega) hN
  refine hg_sound C hl_ck (stops := [1752]) 60 989 (hl_L (nI i)) [vI v] μ1 1752 (hl_L (nI i)) [] μ2 ?_ (hk μ2 E2 t2 h2)
  show hl_go 200 [1752] 60 989 (hl_L (nI i)) [vI v] μ1 = _
  rw [hl_b_22, if_pos (show hs_in (nI i + (1 : Int32)) _ = true from b1.1), show μ1.1 70 0 (nI i + (1 : Int32)).toNatClampNeg = hs_gX g (i + 1) from b1.2, e2, hx_bI, if_pos rfl]
theorem hl_op_23 {g : hs_G} {p : Program} {l : Launch} {e : Env} {R : Room} {s : State} {m : MethodId} {args : Array Value} {below : List Frame} {meth : Method} {c : Code} {cells slots : Nat} {Q : State → Prop} (C : hs_Ctx g p l R s m args c cells slots 13 code 8 (hs_call 200)) {n : Nat} (hn : n ≤ 512) {E : hx_Env} {t : hx_St} {μ : hs_M} (h : hx_I n E t μ) {i : Nat} (hi : i + 5 ≤ hs_gN g) (hN : hs_gN g ≤ 2560) (hsc : hs_Sc g μ) (hk : ∀ μ2 E2 t2, hx_I (n + 1) E2 t2 μ2 → hs_WS g p l e R s m args below meth c cells slots 8 Q 1752 (hl_L (nI i)) [] μ2) : hs_WS g p l e R s m args below meth c cells slots 8 Q 1004 (hl_L (nI i)) [] μ := by
  obtain ⟨v, μ1, μ2, e1, e2, E2, t2, h2⟩ := hx_ever 194 hn h (hs_gX g (i + 1))
  have e1 : hc_H_ever 200 (hs_gX g (i + 1)) μ = some (some (vI v), μ1) := e1
  have e2 : hc_M_ever 200 (hs_gX g (i + 1)) μ1 = some (some (vI v), μ2) := e2
  have a1 := hl_arg hsc (i := i) (k := 1) (by omega) hN
  refine hg_sound C hl_ck (stops := [1014]) 60 1004 (hl_L (nI i)) [] μ 1014 (hl_L (nI i)) [vI v] μ1 ?_ ?_
  · show hl_go 200 [1014] 60 1004 (hl_L (nI i)) [] μ = _
    rw [hl_a_23, if_pos (show hs_in (nI i + (1 : Int32)) _ = true from a1.1), show μ.1 70 0 (nI i + (1 : Int32)).toNatClampNeg = hs_gX g (i + 1) from a1.2, e1, hx_bI]
  refine hl_sc (d := 200) (own := 13) (cc := code) (fun hsc1 => ?_)
  have b1 := hl_arg hsc1 (i := i) (k := 1) (by omega) hN
  refine hg_sound C hl_ck (stops := [1752]) 60 1014 (hl_L (nI i)) [vI v] μ1 1752 (hl_L (nI i)) [] μ2 ?_ (hk μ2 E2 t2 h2)
  show hl_go 200 [1752] 60 1014 (hl_L (nI i)) [vI v] μ1 = _
  rw [hl_b_23, if_pos (show hs_in (nI i + (1 : Int32)) _ = true from b1.1), show μ1.1 70 0 (nI i + (1 : Int32)).toNatClampNeg = hs_gX g (i + 1) from b1.2, e2, hx_bI, if_pos rfl]
theorem hl_op_24 {g : hs_G} {p : Program} {l : Launch} {e : Env} {R : Room} {s : State} {m : MethodId} {args : Array Value} {below : List Frame} {meth : Method} {c : Code} {cells slots : Nat} {Q : State → Prop} (C : hs_Ctx g p l R s m args c cells slots 13 code 8 (hs_call 200)) {n : Nat} (hn : n ≤ 512) {E : hx_Env} {t : hx_St} {μ : hs_M} (h : hx_I n E t μ) {i : Nat} (hi : i + 5 ≤ hs_gN g) (hN : hs_gN g ≤ 2560) (hsc : hs_Sc g μ) (hk : ∀ μ2 E2 t2, hx_I (n + 1) E2 t2 μ2 → hs_WS g p l e R s m args below meth c cells slots 8 Q 1752 (hl_L (nI i)) [] μ2) : hs_WS g p l e R s m args below meth c cells slots 8 Q 1029 (hl_L (nI i)) [] μ := by
  obtain ⟨v, μ1, μ2, e1, e2, E2, t2, h2⟩ := hx_most 170 hn h (hs_gX g (i + 1)) (hs_gX g (i + 2))
  have e1 : hc_H_most 200 (hs_gX g (i + 1)) (hs_gX g (i + 2)) μ = some (some (vI v), μ1) := e1
  have e2 : hc_M_most 200 (hs_gX g (i + 1)) (hs_gX g (i + 2)) μ1 = some (some (vI v), μ2) := e2
  have a1 := hl_arg hsc (i := i) (k := 1) (by omega) hN
  have a2 := hl_arg hsc (i := i) (k := 2) (by omega) hN
  refine hg_sound C hl_ck (stops := [1045]) 60 1029 (hl_L (nI i)) [] μ 1045 (hl_L (nI i)) [vI v] μ1 ?_ ?_
  · show hl_go 200 [1045] 60 1029 (hl_L (nI i)) [] μ = _
    rw [hl_a_24, if_pos (show hs_in (nI i + (1 : Int32)) _ = true from a1.1), if_pos (show hs_in (nI i + (2 : Int32)) _ = true from a2.1), show μ.1 70 0 (nI i + (1 : Int32)).toNatClampNeg = hs_gX g (i + 1) from a1.2, show μ.1 70 0 (nI i + (2 : Int32)).toNatClampNeg = hs_gX g (i + 2) from a2.2, e1, hx_bI]
  refine hl_sc (d := 200) (own := 13) (cc := code) (fun hsc1 => ?_)
  have b1 := hl_arg hsc1 (i := i) (k := 1) (by omega) hN
  have b2 := hl_arg hsc1 (i := i) (k := 2) (by omega) hN
  refine hg_sound C hl_ck (stops := [1752]) 60 1045 (hl_L (nI i)) [vI v] μ1 1752 (hl_L (nI i)) [] μ2 ?_ (hk μ2 E2 t2 h2)
  show hl_go 200 [1752] 60 1045 (hl_L (nI i)) [vI v] μ1 = _
  rw [hl_b_24, if_pos (show hs_in (nI i + (1 : Int32)) _ = true from b1.1), if_pos (show hs_in (nI i + (2 : Int32)) _ = true from b2.1), show μ1.1 70 0 (nI i + (1 : Int32)).toNatClampNeg = hs_gX g (i + 1) from b1.2, show μ1.1 70 0 (nI i + (2 : Int32)).toNatClampNeg = hs_gX g (i + 2) from b2.2, e2, hx_bI, if_pos rfl]
theorem hl_op_25 {g : hs_G} {p : Program} {l : Launch} {e : Env} {R : Room} {s : State} {m : MethodId} {args : Array Value} {below : List Frame} {meth : Method} {c : Code} {cells slots : Nat} {Q : State → Prop} (C : hs_Ctx g p l R s m args c cells slots 13 code 8 (hs_call 200)) {n : Nat} (hn : n ≤ 512) {E : hx_Env} {t : hx_St} {μ : hs_M} (h : hx_I n E t μ) {i : Nat} (hi : i + 5 ≤ hs_gN g) (hN : hs_gN g ≤ 2560) (hsc : hs_Sc g μ) (hk : ∀ μ2 E2 t2, hx_I (n + 1) E2 t2 μ2 → hs_WS g p l e R s m args below meth c cells slots 8 Q 1752 (hl_L (nI i)) [] μ2) : hs_WS g p l e R s m args below meth c cells slots 8 Q 1066 (hl_L (nI i)) [] μ := by
  obtain ⟨v, μ1, μ2, e1, e2, E2, t2, h2⟩ := hx_rests 192 hn h (hs_gX g (i + 1)) (hs_gX g (i + 2))
  have e1 : hc_H_rests 200 (hs_gX g (i + 1)) (hs_gX g (i + 2)) μ = some (some (vI v), μ1) := e1
  have e2 : hc_M_rests 200 (hs_gX g (i + 1)) (hs_gX g (i + 2)) μ1 = some (some (vI v), μ2) := e2
  have a1 := hl_arg hsc (i := i) (k := 1) (by omega) hN
  have a2 := hl_arg hsc (i := i) (k := 2) (by omega) hN
  refine hg_sound C hl_ck (stops := [1082]) 60 1066 (hl_L (nI i)) [] μ 1082 (hl_L (nI i)) [vI v] μ1 ?_ ?_
  · show hl_go 200 [1082] 60 1066 (hl_L (nI i)) [] μ = _
    rw [hl_a_25, if_pos (show hs_in (nI i + (1 : Int32)) _ = true from a1.1), if_pos (show hs_in (nI i + (2 : Int32)) _ = true from a2.1), show μ.1 70 0 (nI i + (1 : Int32)).toNatClampNeg = hs_gX g (i + 1) from a1.2, show μ.1 70 0 (nI i + (2 : Int32)).toNatClampNeg = hs_gX g (i + 2) from a2.2, e1, hx_bI]
  refine hl_sc (d := 200) (own := 13) (cc := code) (fun hsc1 => ?_)
  have b1 := hl_arg hsc1 (i := i) (k := 1) (by omega) hN
  have b2 := hl_arg hsc1 (i := i) (k := 2) (by omega) hN
  refine hg_sound C hl_ck (stops := [1752]) 60 1082 (hl_L (nI i)) [vI v] μ1 1752 (hl_L (nI i)) [] μ2 ?_ (hk μ2 E2 t2 h2)
  show hl_go 200 [1752] 60 1082 (hl_L (nI i)) [vI v] μ1 = _
  rw [hl_b_25, if_pos (show hs_in (nI i + (1 : Int32)) _ = true from b1.1), if_pos (show hs_in (nI i + (2 : Int32)) _ = true from b2.1), show μ1.1 70 0 (nI i + (1 : Int32)).toNatClampNeg = hs_gX g (i + 1) from b1.2, show μ1.1 70 0 (nI i + (2 : Int32)).toNatClampNeg = hs_gX g (i + 2) from b2.2, e2, hx_bI, if_pos rfl]
theorem hl_op_26 {g : hs_G} {p : Program} {l : Launch} {e : Env} {R : Room} {s : State} {m : MethodId} {args : Array Value} {below : List Frame} {meth : Method} {c : Code} {cells slots : Nat} {Q : State → Prop} (C : hs_Ctx g p l R s m args c cells slots 13 code 8 (hs_call 200)) {n : Nat} (hn : n ≤ 512) {E : hx_Env} {t : hx_St} {μ : hs_M} (h : hx_I n E t μ) {i : Nat} (hi : i + 5 ≤ hs_gN g) (hN : hs_gN g ≤ 2560) (hsc : hs_Sc g μ) (hk : ∀ μ2 E2 t2, hx_I (n + 1) E2 t2 μ2 → hs_WS g p l e R s m args below meth c cells slots 8 Q 1752 (hl_L (nI i)) [] μ2) : hs_WS g p l e R s m args below meth c cells slots 8 Q 1103 (hl_L (nI i)) [] μ := by
  obtain ⟨v, μ1, μ2, e1, e2, E2, t2, h2⟩ := hx_party 193 hn h (hs_gX g (i + 1))
  have e1 : hc_H_party 200 (hs_gX g (i + 1)) μ = some (some (vI v), μ1) := e1
  have e2 : hc_M_party 200 (hs_gX g (i + 1)) μ1 = some (some (vI v), μ2) := e2
  have a1 := hl_arg hsc (i := i) (k := 1) (by omega) hN
  refine hg_sound C hl_ck (stops := [1113]) 60 1103 (hl_L (nI i)) [] μ 1113 (hl_L (nI i)) [vI v] μ1 ?_ ?_
  · show hl_go 200 [1113] 60 1103 (hl_L (nI i)) [] μ = _
    rw [hl_a_26, if_pos (show hs_in (nI i + (1 : Int32)) _ = true from a1.1), show μ.1 70 0 (nI i + (1 : Int32)).toNatClampNeg = hs_gX g (i + 1) from a1.2, e1, hx_bI]
  refine hl_sc (d := 200) (own := 13) (cc := code) (fun hsc1 => ?_)
  have b1 := hl_arg hsc1 (i := i) (k := 1) (by omega) hN
  refine hg_sound C hl_ck (stops := [1752]) 60 1113 (hl_L (nI i)) [vI v] μ1 1752 (hl_L (nI i)) [] μ2 ?_ (hk μ2 E2 t2 h2)
  show hl_go 200 [1752] 60 1113 (hl_L (nI i)) [vI v] μ1 = _
  rw [hl_b_26, if_pos (show hs_in (nI i + (1 : Int32)) _ = true from b1.1), show μ1.1 70 0 (nI i + (1 : Int32)).toNatClampNeg = hs_gX g (i + 1) from b1.2, e2, hx_bI, if_pos rfl]
theorem hl_op_27 {g : hs_G} {p : Program} {l : Launch} {e : Env} {R : Room} {s : State} {m : MethodId} {args : Array Value} {below : List Frame} {meth : Method} {c : Code} {cells slots : Nat} {Q : State → Prop} (C : hs_Ctx g p l R s m args c cells slots 13 code 8 (hs_call 200)) {n : Nat} (hn : n ≤ 512) {E : hx_Env} {t : hx_St} {μ : hs_M} (h : hx_I n E t μ) {i : Nat} (hi : i + 5 ≤ hs_gN g) (hN : hs_gN g ≤ 2560) (hsc : hs_Sc g μ) (hk : ∀ μ2 E2 t2, hx_I (n + 1) E2 t2 μ2 → hs_WS g p l e R s m args below meth c cells slots 8 Q 1752 (hl_L (nI i)) [] μ2) : hs_WS g p l e R s m args below meth c cells slots 8 Q 1128 (hl_L (nI i)) [] μ := by
  obtain ⟨v, μ1, μ2, e1, e2, E2, t2, h2⟩ := hx_byTurns 193 hn h (hs_gX g (i + 1)) (hs_gX g (i + 2))
  have e1 : hc_H_byTurns 200 (hs_gX g (i + 1)) (hs_gX g (i + 2)) μ = some (some (vI v), μ1) := e1
  have e2 : hc_M_byTurns 200 (hs_gX g (i + 1)) (hs_gX g (i + 2)) μ1 = some (some (vI v), μ2) := e2
  have a1 := hl_arg hsc (i := i) (k := 1) (by omega) hN
  have a2 := hl_arg hsc (i := i) (k := 2) (by omega) hN
  refine hg_sound C hl_ck (stops := [1144]) 60 1128 (hl_L (nI i)) [] μ 1144 (hl_L (nI i)) [vI v] μ1 ?_ ?_
  · show hl_go 200 [1144] 60 1128 (hl_L (nI i)) [] μ = _
    rw [hl_a_27, if_pos (show hs_in (nI i + (1 : Int32)) _ = true from a1.1), if_pos (show hs_in (nI i + (2 : Int32)) _ = true from a2.1), show μ.1 70 0 (nI i + (1 : Int32)).toNatClampNeg = hs_gX g (i + 1) from a1.2, show μ.1 70 0 (nI i + (2 : Int32)).toNatClampNeg = hs_gX g (i + 2) from a2.2, e1, hx_bI]
  refine hl_sc (d := 200) (own := 13) (cc := code) (fun hsc1 => ?_)
  have b1 := hl_arg hsc1 (i := i) (k := 1) (by omega) hN
  have b2 := hl_arg hsc1 (i := i) (k := 2) (by omega) hN
  refine hg_sound C hl_ck (stops := [1752]) 60 1144 (hl_L (nI i)) [vI v] μ1 1752 (hl_L (nI i)) [] μ2 ?_ (hk μ2 E2 t2 h2)
  show hl_go 200 [1752] 60 1144 (hl_L (nI i)) [vI v] μ1 = _
  rw [hl_b_27, if_pos (show hs_in (nI i + (1 : Int32)) _ = true from b1.1), if_pos (show hs_in (nI i + (2 : Int32)) _ = true from b2.1), show μ1.1 70 0 (nI i + (1 : Int32)).toNatClampNeg = hs_gX g (i + 1) from b1.2, show μ1.1 70 0 (nI i + (2 : Int32)).toNatClampNeg = hs_gX g (i + 2) from b2.2, e2, hx_bI, if_pos rfl]
theorem hl_op_29 {g : hs_G} {p : Program} {l : Launch} {e : Env} {R : Room} {s : State} {m : MethodId} {args : Array Value} {below : List Frame} {meth : Method} {c : Code} {cells slots : Nat} {Q : State → Prop} (C : hs_Ctx g p l R s m args c cells slots 13 code 8 (hs_call 200)) {n : Nat} (hn : n ≤ 512) {E : hx_Env} {t : hx_St} {μ : hs_M} (h : hx_I n E t μ) {i : Nat} (hi : i + 5 ≤ hs_gN g) (hN : hs_gN g ≤ 2560) (hsc : hs_Sc g μ) (hk : ∀ μ2 E2 t2, hx_I (n + 1) E2 t2 μ2 → hs_WS g p l e R s m args below meth c cells slots 8 Q 1752 (hl_L (nI i)) [] μ2) : hs_WS g p l e R s m args below meth c cells slots 8 Q 1233 (hl_L (nI i)) [] μ := by
  obtain ⟨v, μ1, μ2, e1, e2, E2, t2, h2⟩ := hx_hold' 193 hn h (hs_gX g (i + 1))
  have e1 : hc_H_hold 200 (hs_gX g (i + 1)) μ = some (some (vI v), μ1) := e1
  have e2 : hc_M_hold 200 (hs_gX g (i + 1)) μ1 = some (some (vI v), μ2) := e2
  have a1 := hl_arg hsc (i := i) (k := 1) (by omega) hN
  refine hg_sound C hl_ck (stops := [1243]) 60 1233 (hl_L (nI i)) [] μ 1243 (hl_L (nI i)) [vI v] μ1 ?_ ?_
  · show hl_go 200 [1243] 60 1233 (hl_L (nI i)) [] μ = _
    rw [hl_a_29, if_pos (show hs_in (nI i + (1 : Int32)) _ = true from a1.1), show μ.1 70 0 (nI i + (1 : Int32)).toNatClampNeg = hs_gX g (i + 1) from a1.2, e1, hx_bI]
  refine hl_sc (d := 200) (own := 13) (cc := code) (fun hsc1 => ?_)
  have b1 := hl_arg hsc1 (i := i) (k := 1) (by omega) hN
  refine hg_sound C hl_ck (stops := [1752]) 60 1243 (hl_L (nI i)) [vI v] μ1 1752 (hl_L (nI i)) [] μ2 ?_ (hk μ2 E2 t2 h2)
  show hl_go 200 [1752] 60 1243 (hl_L (nI i)) [vI v] μ1 = _
  rw [hl_b_29, if_pos (show hs_in (nI i + (1 : Int32)) _ = true from b1.1), show μ1.1 70 0 (nI i + (1 : Int32)).toNatClampNeg = hs_gX g (i + 1) from b1.2, e2, hx_bI, if_pos rfl]
theorem hl_op_30 {g : hs_G} {p : Program} {l : Launch} {e : Env} {R : Room} {s : State} {m : MethodId} {args : Array Value} {below : List Frame} {meth : Method} {c : Code} {cells slots : Nat} {Q : State → Prop} (C : hs_Ctx g p l R s m args c cells slots 13 code 8 (hs_call 200)) {n : Nat} (hn : n ≤ 512) {E : hx_Env} {t : hx_St} {μ : hs_M} (h : hx_I n E t μ) {i : Nat} (hi : i + 5 ≤ hs_gN g) (hN : hs_gN g ≤ 2560) (hsc : hs_Sc g μ) (hk : ∀ μ2 E2 t2, hx_I (n + 1) E2 t2 μ2 → hs_WS g p l e R s m args below meth c cells slots 8 Q 1752 (hl_L (nI i)) [] μ2) : hs_WS g p l e R s m args below meth c cells slots 8 Q 1258 (hl_L (nI i)) [] μ := by
  obtain ⟨v, μ1, μ2, e1, e2, E2, t2, h2⟩ := hx_bribe 193 hn h (hs_gX g (i + 1)) (hs_gX g (i + 2))
  have e1 : hc_H_bribe 200 (hs_gX g (i + 1)) (hs_gX g (i + 2)) μ = some (some (vI v), μ1) := e1
  have e2 : hc_M_bribe 200 (hs_gX g (i + 1)) (hs_gX g (i + 2)) μ1 = some (some (vI v), μ2) := e2
  have a1 := hl_arg hsc (i := i) (k := 1) (by omega) hN
  have a2 := hl_arg hsc (i := i) (k := 2) (by omega) hN
  refine hg_sound C hl_ck (stops := [1274]) 60 1258 (hl_L (nI i)) [] μ 1274 (hl_L (nI i)) [vI v] μ1 ?_ ?_
  · show hl_go 200 [1274] 60 1258 (hl_L (nI i)) [] μ = _
    rw [hl_a_30, if_pos (show hs_in (nI i + (1 : Int32)) _ = true from a1.1), if_pos (show hs_in (nI i + (2 : Int32)) _ = true from a2.1), show μ.1 70 0 (nI i + (1 : Int32)).toNatClampNeg = hs_gX g (i + 1) from a1.2, show μ.1 70 0 (nI i + (2 : Int32)).toNatClampNeg = hs_gX g (i + 2) from a2.2, e1, hx_bI]
  refine hl_sc (d := 200) (own := 13) (cc := code) (fun hsc1 => ?_)
  have b1 := hl_arg hsc1 (i := i) (k := 1) (by omega) hN
  have b2 := hl_arg hsc1 (i := i) (k := 2) (by omega) hN
  refine hg_sound C hl_ck (stops := [1752]) 60 1274 (hl_L (nI i)) [vI v] μ1 1752 (hl_L (nI i)) [] μ2 ?_ (hk μ2 E2 t2 h2)
  show hl_go 200 [1752] 60 1274 (hl_L (nI i)) [vI v] μ1 = _
  rw [hl_b_30, if_pos (show hs_in (nI i + (1 : Int32)) _ = true from b1.1), if_pos (show hs_in (nI i + (2 : Int32)) _ = true from b2.1), show μ1.1 70 0 (nI i + (1 : Int32)).toNatClampNeg = hs_gX g (i + 1) from b1.2, show μ1.1 70 0 (nI i + (2 : Int32)).toNatClampNeg = hs_gX g (i + 2) from b2.2, e2, hx_bI, if_pos rfl]
theorem hl_op_31 {g : hs_G} {p : Program} {l : Launch} {e : Env} {R : Room} {s : State} {m : MethodId} {args : Array Value} {below : List Frame} {meth : Method} {c : Code} {cells slots : Nat} {Q : State → Prop} (C : hs_Ctx g p l R s m args c cells slots 13 code 8 (hs_call 200)) {n : Nat} (hn : n ≤ 512) {E : hx_Env} {t : hx_St} {μ : hs_M} (h : hx_I n E t μ) {i : Nat} (hi : i + 5 ≤ hs_gN g) (hN : hs_gN g ≤ 2560) (hsc : hs_Sc g μ) (hk : ∀ μ2 E2 t2, hx_I (n + 1) E2 t2 μ2 → hs_WS g p l e R s m args below meth c cells slots 8 Q 1752 (hl_L (nI i)) [] μ2) : hs_WS g p l e R s m args below meth c cells slots 8 Q 1295 (hl_L (nI i)) [] μ := by
  obtain ⟨v, μ1, μ2, e1, e2, E2, t2, h2⟩ := hx_starve 193 hn h (hs_gX g (i + 1)) (hs_gX g (i + 2))
  have e1 : hc_H_starve 200 (hs_gX g (i + 1)) (hs_gX g (i + 2)) μ = some (some (vI v), μ1) := e1
  have e2 : hc_M_starve 200 (hs_gX g (i + 1)) (hs_gX g (i + 2)) μ1 = some (some (vI v), μ2) := e2
  have a1 := hl_arg hsc (i := i) (k := 1) (by omega) hN
  have a2 := hl_arg hsc (i := i) (k := 2) (by omega) hN
  refine hg_sound C hl_ck (stops := [1311]) 60 1295 (hl_L (nI i)) [] μ 1311 (hl_L (nI i)) [vI v] μ1 ?_ ?_
  · show hl_go 200 [1311] 60 1295 (hl_L (nI i)) [] μ = _
    rw [hl_a_31, if_pos (show hs_in (nI i + (1 : Int32)) _ = true from a1.1), if_pos (show hs_in (nI i + (2 : Int32)) _ = true from a2.1), show μ.1 70 0 (nI i + (1 : Int32)).toNatClampNeg = hs_gX g (i + 1) from a1.2, show μ.1 70 0 (nI i + (2 : Int32)).toNatClampNeg = hs_gX g (i + 2) from a2.2, e1, hx_bI]
  refine hl_sc (d := 200) (own := 13) (cc := code) (fun hsc1 => ?_)
  have b1 := hl_arg hsc1 (i := i) (k := 1) (by omega) hN
  have b2 := hl_arg hsc1 (i := i) (k := 2) (by omega) hN
  refine hg_sound C hl_ck (stops := [1752]) 60 1311 (hl_L (nI i)) [vI v] μ1 1752 (hl_L (nI i)) [] μ2 ?_ (hk μ2 E2 t2 h2)
  show hl_go 200 [1752] 60 1311 (hl_L (nI i)) [vI v] μ1 = _
  rw [hl_b_31, if_pos (show hs_in (nI i + (1 : Int32)) _ = true from b1.1), if_pos (show hs_in (nI i + (2 : Int32)) _ = true from b2.1), show μ1.1 70 0 (nI i + (1 : Int32)).toNatClampNeg = hs_gX g (i + 1) from b1.2, show μ1.1 70 0 (nI i + (2 : Int32)).toNatClampNeg = hs_gX g (i + 2) from b2.2, e2, hx_bI, if_pos rfl]
theorem hl_op_32 {g : hs_G} {p : Program} {l : Launch} {e : Env} {R : Room} {s : State} {m : MethodId} {args : Array Value} {below : List Frame} {meth : Method} {c : Code} {cells slots : Nat} {Q : State → Prop} (C : hs_Ctx g p l R s m args c cells slots 13 code 8 (hs_call 200)) {n : Nat} (hn : n ≤ 512) {E : hx_Env} {t : hx_St} {μ : hs_M} (h : hx_I n E t μ) {i : Nat} (hi : i + 5 ≤ hs_gN g) (hN : hs_gN g ≤ 2560) (hsc : hs_Sc g μ) (hk : ∀ μ2 E2 t2, hx_I (n + 1) E2 t2 μ2 → hs_WS g p l e R s m args below meth c cells slots 8 Q 1752 (hl_L (nI i)) [] μ2) : hs_WS g p l e R s m args below meth c cells slots 8 Q 1332 (hl_L (nI i)) [] μ := by
  obtain ⟨v, μ1, μ2, e1, e2, E2, t2, h2⟩ := hx_cheapest 194 hn h
  have e1 : hc_H_cheapest 200  μ = some (some (vI v), μ1) := e1
  have e2 : hc_M_cheapest 200  μ1 = some (some (vI v), μ2) := e2
  refine hg_sound C hl_ck (stops := [1336]) 60 1332 (hl_L (nI i)) [] μ 1336 (hl_L (nI i)) [vI v] μ1 ?_ ?_
  · show hl_go 200 [1336] 60 1332 (hl_L (nI i)) [] μ = _
    rw [hl_a_32, e1, hx_bI]
  refine hl_sc (d := 200) (own := 13) (cc := code) (fun hsc1 => ?_)
  refine hg_sound C hl_ck (stops := [1752]) 60 1336 (hl_L (nI i)) [vI v] μ1 1752 (hl_L (nI i)) [] μ2 ?_ (hk μ2 E2 t2 h2)
  show hl_go 200 [1752] 60 1336 (hl_L (nI i)) [vI v] μ1 = _
  rw [hl_b_32, e2, hx_bI, if_pos rfl]
theorem hl_op_33 {g : hs_G} {p : Program} {l : Launch} {e : Env} {R : Room} {s : State} {m : MethodId} {args : Array Value} {below : List Frame} {meth : Method} {c : Code} {cells slots : Nat} {Q : State → Prop} (C : hs_Ctx g p l R s m args c cells slots 13 code 8 (hs_call 200)) {n : Nat} (hn : n ≤ 512) {E : hx_Env} {t : hx_St} {μ : hs_M} (h : hx_I n E t μ) {i : Nat} (hi : i + 5 ≤ hs_gN g) (hN : hs_gN g ≤ 2560) (hsc : hs_Sc g μ) (hk : ∀ μ2 E2 t2, hx_I (n + 1) E2 t2 μ2 → hs_WS g p l e R s m args below meth c cells slots 8 Q 1752 (hl_L (nI i)) [] μ2) : hs_WS g p l e R s m args below meth c cells slots 8 Q 1345 (hl_L (nI i)) [] μ := by
  obtain ⟨v, μ1, μ2, e1, e2, E2, t2, h2⟩ := hx_weighed 197 h (hs_gX g (i + 1)) (hs_gX g (i + 2))
  have e1 : hc_H_weighed 200 (hs_gX g (i + 1)) (hs_gX g (i + 2)) μ = some (some (vI v), μ1) := e1
  have e2 : hc_M_weighed 200 (hs_gX g (i + 1)) (hs_gX g (i + 2)) μ1 = some (some (vI v), μ2) := e2
  have a1 := hl_arg hsc (i := i) (k := 1) (by omega) hN
  have a2 := hl_arg hsc (i := i) (k := 2) (by omega) hN
  refine hg_sound C hl_ck (stops := [1361]) 60 1345 (hl_L (nI i)) [] μ 1361 (hl_L (nI i)) [vI v] μ1 ?_ ?_
  · show hl_go 200 [1361] 60 1345 (hl_L (nI i)) [] μ = _
    rw [hl_a_33, if_pos (show hs_in (nI i + (1 : Int32)) _ = true from a1.1), if_pos (show hs_in (nI i + (2 : Int32)) _ = true from a2.1), show μ.1 70 0 (nI i + (1 : Int32)).toNatClampNeg = hs_gX g (i + 1) from a1.2, show μ.1 70 0 (nI i + (2 : Int32)).toNatClampNeg = hs_gX g (i + 2) from a2.2, e1, hx_bI]
  refine hl_sc (d := 200) (own := 13) (cc := code) (fun hsc1 => ?_)
  have b1 := hl_arg hsc1 (i := i) (k := 1) (by omega) hN
  have b2 := hl_arg hsc1 (i := i) (k := 2) (by omega) hN
  refine hg_sound C hl_ck (stops := [1752]) 60 1361 (hl_L (nI i)) [vI v] μ1 1752 (hl_L (nI i)) [] μ2 ?_ (hk μ2 E2 t2 h2)
  show hl_go 200 [1752] 60 1361 (hl_L (nI i)) [vI v] μ1 = _
  rw [hl_b_33, if_pos (show hs_in (nI i + (1 : Int32)) _ = true from b1.1), if_pos (show hs_in (nI i + (2 : Int32)) _ = true from b2.1), show μ1.1 70 0 (nI i + (1 : Int32)).toNatClampNeg = hs_gX g (i + 1) from b1.2, show μ1.1 70 0 (nI i + (2 : Int32)).toNatClampNeg = hs_gX g (i + 2) from b2.2, e2, hx_bI, if_pos rfl]
theorem hl_op_34 {g : hs_G} {p : Program} {l : Launch} {e : Env} {R : Room} {s : State} {m : MethodId} {args : Array Value} {below : List Frame} {meth : Method} {c : Code} {cells slots : Nat} {Q : State → Prop} (C : hs_Ctx g p l R s m args c cells slots 13 code 8 (hs_call 200)) {n : Nat} (hn : n ≤ 512) {E : hx_Env} {t : hx_St} {μ : hs_M} (h : hx_I n E t μ) {i : Nat} (hi : i + 5 ≤ hs_gN g) (hN : hs_gN g ≤ 2560) (hsc : hs_Sc g μ) (hk : ∀ μ2 E2 t2, hx_I (n + 1) E2 t2 μ2 → hs_WS g p l e R s m args below meth c cells slots 8 Q 1752 (hl_L (nI i)) [] μ2) : hs_WS g p l e R s m args below meth c cells slots 8 Q 1382 (hl_L (nI i)) [] μ := by
  obtain ⟨v, μ1, μ2, e1, e2, E2, t2, h2⟩ := hx_forget 199 h
  have e1 : hc_H_forget 200  μ = some (some (vI v), μ1) := e1
  have e2 : hc_M_forget 200  μ1 = some (some (vI v), μ2) := e2
  refine hg_sound C hl_ck (stops := [1386]) 60 1382 (hl_L (nI i)) [] μ 1386 (hl_L (nI i)) [vI v] μ1 ?_ ?_
  · show hl_go 200 [1386] 60 1382 (hl_L (nI i)) [] μ = _
    rw [hl_a_34, e1, hx_bI]
  refine hl_sc (d := 200) (own := 13) (cc := code) (fun hsc1 => ?_)
  refine hg_sound C hl_ck (stops := [1752]) 60 1386 (hl_L (nI i)) [vI v] μ1 1752 (hl_L (nI i)) [] μ2 ?_ (hk μ2 E2 t2 h2)
  show hl_go 200 [1752] 60 1386 (hl_L (nI i)) [vI v] μ1 = _
  rw [hl_b_34, e2, hx_bI, if_pos rfl]
theorem hl_op_35 {g : hs_G} {p : Program} {l : Launch} {e : Env} {R : Room} {s : State} {m : MethodId} {args : Array Value} {below : List Frame} {meth : Method} {c : Code} {cells slots : Nat} {Q : State → Prop} (C : hs_Ctx g p l R s m args c cells slots 13 code 8 (hs_call 200)) {n : Nat} (hn : n ≤ 512) {E : hx_Env} {t : hx_St} {μ : hs_M} (h : hx_I n E t μ) {i : Nat} (hi : i + 5 ≤ hs_gN g) (hN : hs_gN g ≤ 2560) (hsc : hs_Sc g μ) (hk : ∀ μ2 E2 t2, hx_I (n + 1) E2 t2 μ2 → hs_WS g p l e R s m args below meth c cells slots 8 Q 1752 (hl_L (nI i)) [] μ2) : hs_WS g p l e R s m args below meth c cells slots 8 Q 1395 (hl_L (nI i)) [] μ := by
  obtain ⟨v, μ1, μ2, e1, e2, E2, t2, h2⟩ := hx_grains 195 hn h
  have e1 : hc_H_grains 200  μ = some (some (vI v), μ1) := e1
  have e2 : hc_M_grains 200  μ1 = some (some (vI v), μ2) := e2
  refine hg_sound C hl_ck (stops := [1399]) 60 1395 (hl_L (nI i)) [] μ 1399 (hl_L (nI i)) [vI v] μ1 ?_ ?_
  · show hl_go 200 [1399] 60 1395 (hl_L (nI i)) [] μ = _
    rw [hl_a_35, e1, hx_bI]
  refine hl_sc (d := 200) (own := 13) (cc := code) (fun hsc1 => ?_)
  refine hg_sound C hl_ck (stops := [1752]) 60 1399 (hl_L (nI i)) [vI v] μ1 1752 (hl_L (nI i)) [] μ2 ?_ (hk μ2 E2 t2 h2)
  show hl_go 200 [1752] 60 1399 (hl_L (nI i)) [vI v] μ1 = _
  rw [hl_b_35, e2, hx_bI, if_pos rfl]
theorem hl_op_36 {g : hs_G} {p : Program} {l : Launch} {e : Env} {R : Room} {s : State} {m : MethodId} {args : Array Value} {below : List Frame} {meth : Method} {c : Code} {cells slots : Nat} {Q : State → Prop} (C : hs_Ctx g p l R s m args c cells slots 13 code 8 (hs_call 200)) {n : Nat} (hn : n ≤ 512) {E : hx_Env} {t : hx_St} {μ : hs_M} (h : hx_I n E t μ) {i : Nat} (hi : i + 5 ≤ hs_gN g) (hN : hs_gN g ≤ 2560) (hsc : hs_Sc g μ) (hk : ∀ μ2 E2 t2, hx_I (n + 1) E2 t2 μ2 → hs_WS g p l e R s m args below meth c cells slots 8 Q 1752 (hl_L (nI i)) [] μ2) : hs_WS g p l e R s m args below meth c cells slots 8 Q 1408 (hl_L (nI i)) [] μ := by
  obtain ⟨v, μ1, μ2, e1, e2, E2, t2, h2⟩ := hx_span 195 hn h (hs_gX g (i + 1))
  have e1 : hc_H_span 200 (hs_gX g (i + 1)) μ = some (some (vI v), μ1) := e1
  have e2 : hc_M_span 200 (hs_gX g (i + 1)) μ1 = some (some (vI v), μ2) := e2
  have a1 := hl_arg hsc (i := i) (k := 1) (by omega) hN
  refine hg_sound C hl_ck (stops := [1418]) 60 1408 (hl_L (nI i)) [] μ 1418 (hl_L (nI i)) [vI v] μ1 ?_ ?_
  · show hl_go 200 [1418] 60 1408 (hl_L (nI i)) [] μ = _
    rw [hl_a_36, if_pos (show hs_in (nI i + (1 : Int32)) _ = true from a1.1), show μ.1 70 0 (nI i + (1 : Int32)).toNatClampNeg = hs_gX g (i + 1) from a1.2, e1, hx_bI]
  refine hl_sc (d := 200) (own := 13) (cc := code) (fun hsc1 => ?_)
  have b1 := hl_arg hsc1 (i := i) (k := 1) (by omega) hN
  refine hg_sound C hl_ck (stops := [1752]) 60 1418 (hl_L (nI i)) [vI v] μ1 1752 (hl_L (nI i)) [] μ2 ?_ (hk μ2 E2 t2 h2)
  show hl_go 200 [1752] 60 1418 (hl_L (nI i)) [vI v] μ1 = _
  rw [hl_b_36, if_pos (show hs_in (nI i + (1 : Int32)) _ = true from b1.1), show μ1.1 70 0 (nI i + (1 : Int32)).toNatClampNeg = hs_gX g (i + 1) from b1.2, e2, hx_bI, if_pos rfl]
theorem hl_op_37 {g : hs_G} {p : Program} {l : Launch} {e : Env} {R : Room} {s : State} {m : MethodId} {args : Array Value} {below : List Frame} {meth : Method} {c : Code} {cells slots : Nat} {Q : State → Prop} (C : hs_Ctx g p l R s m args c cells slots 13 code 8 (hs_call 200)) {n : Nat} (hn : n ≤ 512) {E : hx_Env} {t : hx_St} {μ : hs_M} (h : hx_I n E t μ) {i : Nat} (hi : i + 5 ≤ hs_gN g) (hN : hs_gN g ≤ 2560) (hsc : hs_Sc g μ) (hk : ∀ μ2 E2 t2, hx_I (n + 1) E2 t2 μ2 → hs_WS g p l e R s m args below meth c cells slots 8 Q 1752 (hl_L (nI i)) [] μ2) : hs_WS g p l e R s m args below meth c cells slots 8 Q 1433 (hl_L (nI i)) [] μ := by
  obtain ⟨v, μ1, μ2, e1, e2, E2, t2, h2⟩ := hx_offs 195 hn h
  have e1 : hc_H_offs 200  μ = some (some (vI v), μ1) := e1
  have e2 : hc_M_offs 200  μ1 = some (some (vI v), μ2) := e2
  refine hg_sound C hl_ck (stops := [1437]) 60 1433 (hl_L (nI i)) [] μ 1437 (hl_L (nI i)) [vI v] μ1 ?_ ?_
  · show hl_go 200 [1437] 60 1433 (hl_L (nI i)) [] μ = _
    rw [hl_a_37, e1, hx_bI]
  refine hl_sc (d := 200) (own := 13) (cc := code) (fun hsc1 => ?_)
  refine hg_sound C hl_ck (stops := [1752]) 60 1437 (hl_L (nI i)) [vI v] μ1 1752 (hl_L (nI i)) [] μ2 ?_ (hk μ2 E2 t2 h2)
  show hl_go 200 [1752] 60 1437 (hl_L (nI i)) [vI v] μ1 = _
  rw [hl_b_37, e2, hx_bI, if_pos rfl]
theorem hl_op_38 {g : hs_G} {p : Program} {l : Launch} {e : Env} {R : Room} {s : State} {m : MethodId} {args : Array Value} {below : List Frame} {meth : Method} {c : Code} {cells slots : Nat} {Q : State → Prop} (C : hs_Ctx g p l R s m args c cells slots 13 code 8 (hs_call 200)) {n : Nat} (hn : n ≤ 512) {E : hx_Env} {t : hx_St} {μ : hs_M} (h : hx_I n E t μ) {i : Nat} (hi : i + 5 ≤ hs_gN g) (hN : hs_gN g ≤ 2560) (hsc : hs_Sc g μ) (hk : ∀ μ2 E2 t2, hx_I (n + 1) E2 t2 μ2 → hs_WS g p l e R s m args below meth c cells slots 8 Q 1752 (hl_L (nI i)) [] μ2) : hs_WS g p l e R s m args below meth c cells slots 8 Q 1446 (hl_L (nI i)) [] μ := by
  obtain ⟨v, μ1, μ2, e1, e2, E2, t2, h2⟩ := hx_cheats 195 hn h
  have e1 : hc_H_cheats 200  μ = some (some (vI v), μ1) := e1
  have e2 : hc_M_cheats 200  μ1 = some (some (vI v), μ2) := e2
  refine hg_sound C hl_ck (stops := [1450]) 60 1446 (hl_L (nI i)) [] μ 1450 (hl_L (nI i)) [vI v] μ1 ?_ ?_
  · show hl_go 200 [1450] 60 1446 (hl_L (nI i)) [] μ = _
    rw [hl_a_38, e1, hx_bI]
  refine hl_sc (d := 200) (own := 13) (cc := code) (fun hsc1 => ?_)
  refine hg_sound C hl_ck (stops := [1752]) 60 1450 (hl_L (nI i)) [vI v] μ1 1752 (hl_L (nI i)) [] μ2 ?_ (hk μ2 E2 t2 h2)
  show hl_go 200 [1752] 60 1450 (hl_L (nI i)) [vI v] μ1 = _
  rw [hl_b_38, e2, hx_bI, if_pos rfl]
theorem hl_op_39 {g : hs_G} {p : Program} {l : Launch} {e : Env} {R : Room} {s : State} {m : MethodId} {args : Array Value} {below : List Frame} {meth : Method} {c : Code} {cells slots : Nat} {Q : State → Prop} (C : hs_Ctx g p l R s m args c cells slots 13 code 8 (hs_call 200)) {n : Nat} (hn : n ≤ 512) {E : hx_Env} {t : hx_St} {μ : hs_M} (h : hx_I n E t μ) {i : Nat} (hi : i + 5 ≤ hs_gN g) (hN : hs_gN g ≤ 2560) (hsc : hs_Sc g μ) (hk : ∀ μ2 E2 t2, hx_I (n + 1) E2 t2 μ2 → hs_WS g p l e R s m args below meth c cells slots 8 Q 1752 (hl_L (nI i)) [] μ2) : hs_WS g p l e R s m args below meth c cells slots 8 Q 1459 (hl_L (nI i)) [] μ := by
  obtain ⟨v, μ1, μ2, e1, e2, E2, t2, h2⟩ := hx_told 197 h (hs_gX g (i + 1)) (hs_gX g (i + 2))
  have e1 : hc_H_told 200 (hs_gX g (i + 1)) (hs_gX g (i + 2)) μ = some (some (vI v), μ1) := e1
  have e2 : hc_M_told 200 (hs_gX g (i + 1)) (hs_gX g (i + 2)) μ1 = some (some (vI v), μ2) := e2
  have a1 := hl_arg hsc (i := i) (k := 1) (by omega) hN
  have a2 := hl_arg hsc (i := i) (k := 2) (by omega) hN
  refine hg_sound C hl_ck (stops := [1475]) 60 1459 (hl_L (nI i)) [] μ 1475 (hl_L (nI i)) [vI v] μ1 ?_ ?_
  · show hl_go 200 [1475] 60 1459 (hl_L (nI i)) [] μ = _
    rw [hl_a_39, if_pos (show hs_in (nI i + (1 : Int32)) _ = true from a1.1), if_pos (show hs_in (nI i + (2 : Int32)) _ = true from a2.1), show μ.1 70 0 (nI i + (1 : Int32)).toNatClampNeg = hs_gX g (i + 1) from a1.2, show μ.1 70 0 (nI i + (2 : Int32)).toNatClampNeg = hs_gX g (i + 2) from a2.2, e1, hx_bI]
  refine hl_sc (d := 200) (own := 13) (cc := code) (fun hsc1 => ?_)
  have b1 := hl_arg hsc1 (i := i) (k := 1) (by omega) hN
  have b2 := hl_arg hsc1 (i := i) (k := 2) (by omega) hN
  refine hg_sound C hl_ck (stops := [1752]) 60 1475 (hl_L (nI i)) [vI v] μ1 1752 (hl_L (nI i)) [] μ2 ?_ (hk μ2 E2 t2 h2)
  show hl_go 200 [1752] 60 1475 (hl_L (nI i)) [vI v] μ1 = _
  rw [hl_b_39, if_pos (show hs_in (nI i + (1 : Int32)) _ = true from b1.1), if_pos (show hs_in (nI i + (2 : Int32)) _ = true from b2.1), show μ1.1 70 0 (nI i + (1 : Int32)).toNatClampNeg = hs_gX g (i + 1) from b1.2, show μ1.1 70 0 (nI i + (2 : Int32)).toNatClampNeg = hs_gX g (i + 2) from b2.2, e2, hx_bI, if_pos rfl]
theorem hl_op_40 {g : hs_G} {p : Program} {l : Launch} {e : Env} {R : Room} {s : State} {m : MethodId} {args : Array Value} {below : List Frame} {meth : Method} {c : Code} {cells slots : Nat} {Q : State → Prop} (C : hs_Ctx g p l R s m args c cells slots 13 code 8 (hs_call 200)) {n : Nat} (hn : n ≤ 512) {E : hx_Env} {t : hx_St} {μ : hs_M} (h : hx_I n E t μ) {i : Nat} (hi : i + 5 ≤ hs_gN g) (hN : hs_gN g ≤ 2560) (hsc : hs_Sc g μ) (hk : ∀ μ2 E2 t2, hx_I (n + 1) E2 t2 μ2 → hs_WS g p l e R s m args below meth c cells slots 8 Q 1752 (hl_L (nI i)) [] μ2) : hs_WS g p l e R s m args below meth c cells slots 8 Q 1496 (hl_L (nI i)) [] μ := by
  obtain ⟨v, μ1, μ2, e1, e2, E2, t2, h2⟩ := hx_wipe 199 h
  have e1 : hc_H_wipe 200  μ = some (some (vI v), μ1) := e1
  have e2 : hc_M_wipe 200  μ1 = some (some (vI v), μ2) := e2
  refine hg_sound C hl_ck (stops := [1500]) 60 1496 (hl_L (nI i)) [] μ 1500 (hl_L (nI i)) [vI v] μ1 ?_ ?_
  · show hl_go 200 [1500] 60 1496 (hl_L (nI i)) [] μ = _
    rw [hl_a_40, e1, hx_bI]
  refine hl_sc (d := 200) (own := 13) (cc := code) (fun hsc1 => ?_)
  refine hg_sound C hl_ck (stops := [1752]) 60 1500 (hl_L (nI i)) [vI v] μ1 1752 (hl_L (nI i)) [] μ2 ?_ (hk μ2 E2 t2 h2)
  show hl_go 200 [1752] 60 1500 (hl_L (nI i)) [vI v] μ1 = _
  rw [hl_b_40, e2, hx_bI, if_pos rfl]
theorem hl_op_41 {g : hs_G} {p : Program} {l : Launch} {e : Env} {R : Room} {s : State} {m : MethodId} {args : Array Value} {below : List Frame} {meth : Method} {c : Code} {cells slots : Nat} {Q : State → Prop} (C : hs_Ctx g p l R s m args c cells slots 13 code 8 (hs_call 200)) {n : Nat} (hn : n ≤ 512) {E : hx_Env} {t : hx_St} {μ : hs_M} (h : hx_I n E t μ) {i : Nat} (hi : i + 5 ≤ hs_gN g) (hN : hs_gN g ≤ 2560) (hsc : hs_Sc g μ) (hk : ∀ μ2 E2 t2, hx_I (n + 1) E2 t2 μ2 → hs_WS g p l e R s m args below meth c cells slots 8 Q 1752 (hl_L (nI i)) [] μ2) : hs_WS g p l e R s m args below meth c cells slots 8 Q 1509 (hl_L (nI i)) [] μ := by
  obtain ⟨v, μ1, μ2, e1, e2, E2, t2, h2⟩ := hx_explains 192 hn h (hs_gX g (i + 1))
  have e1 : hc_H_explains 200 (hs_gX g (i + 1)) μ = some (some (vI v), μ1) := e1
  have e2 : hc_M_explains 200 (hs_gX g (i + 1)) μ1 = some (some (vI v), μ2) := e2
  have a1 := hl_arg hsc (i := i) (k := 1) (by omega) hN
  refine hg_sound C hl_ck (stops := [1519]) 60 1509 (hl_L (nI i)) [] μ 1519 (hl_L (nI i)) [vI v] μ1 ?_ ?_
  · show hl_go 200 [1519] 60 1509 (hl_L (nI i)) [] μ = _
    rw [hl_a_41, if_pos (show hs_in (nI i + (1 : Int32)) _ = true from a1.1), show μ.1 70 0 (nI i + (1 : Int32)).toNatClampNeg = hs_gX g (i + 1) from a1.2, e1, hx_bI]
  refine hl_sc (d := 200) (own := 13) (cc := code) (fun hsc1 => ?_)
  have b1 := hl_arg hsc1 (i := i) (k := 1) (by omega) hN
  refine hg_sound C hl_ck (stops := [1752]) 60 1519 (hl_L (nI i)) [vI v] μ1 1752 (hl_L (nI i)) [] μ2 ?_ (hk μ2 E2 t2 h2)
  show hl_go 200 [1752] 60 1519 (hl_L (nI i)) [vI v] μ1 = _
  rw [hl_b_41, if_pos (show hs_in (nI i + (1 : Int32)) _ = true from b1.1), show μ1.1 70 0 (nI i + (1 : Int32)).toNatClampNeg = hs_gX g (i + 1) from b1.2, e2, hx_bI, if_pos rfl]
theorem hl_op_42 {g : hs_G} {p : Program} {l : Launch} {e : Env} {R : Room} {s : State} {m : MethodId} {args : Array Value} {below : List Frame} {meth : Method} {c : Code} {cells slots : Nat} {Q : State → Prop} (C : hs_Ctx g p l R s m args c cells slots 13 code 8 (hs_call 200)) {n : Nat} (hn : n ≤ 512) {E : hx_Env} {t : hx_St} {μ : hs_M} (h : hx_I n E t μ) {i : Nat} (hi : i + 5 ≤ hs_gN g) (hN : hs_gN g ≤ 2560) (hsc : hs_Sc g μ) (hk : ∀ μ2 E2 t2, hx_I (n + 1) E2 t2 μ2 → hs_WS g p l e R s m args below meth c cells slots 8 Q 1752 (hl_L (nI i)) [] μ2) : hs_WS g p l e R s m args below meth c cells slots 8 Q 1534 (hl_L (nI i)) [] μ := by
  obtain ⟨v, μ1, μ2, e1, e2, E2, t2, h2⟩ := hx_absent 192 hn h
  have e1 : hc_H_absent 200  μ = some (some (vI v), μ1) := e1
  have e2 : hc_M_absent 200  μ1 = some (some (vI v), μ2) := e2
  refine hg_sound C hl_ck (stops := [1538]) 60 1534 (hl_L (nI i)) [] μ 1538 (hl_L (nI i)) [vI v] μ1 ?_ ?_
  · show hl_go 200 [1538] 60 1534 (hl_L (nI i)) [] μ = _
    rw [hl_a_42, e1, hx_bI]
  refine hl_sc (d := 200) (own := 13) (cc := code) (fun hsc1 => ?_)
  refine hg_sound C hl_ck (stops := [1752]) 60 1538 (hl_L (nI i)) [vI v] μ1 1752 (hl_L (nI i)) [] μ2 ?_ (hk μ2 E2 t2 h2)
  show hl_go 200 [1752] 60 1538 (hl_L (nI i)) [vI v] μ1 = _
  rw [hl_b_42, e2, hx_bI, if_pos rfl]
theorem hl_op_43 {g : hs_G} {p : Program} {l : Launch} {e : Env} {R : Room} {s : State} {m : MethodId} {args : Array Value} {below : List Frame} {meth : Method} {c : Code} {cells slots : Nat} {Q : State → Prop} (C : hs_Ctx g p l R s m args c cells slots 13 code 8 (hs_call 200)) {n : Nat} (hn : n ≤ 512) {E : hx_Env} {t : hx_St} {μ : hs_M} (h : hx_I n E t μ) {i : Nat} (hi : i + 5 ≤ hs_gN g) (hN : hs_gN g ≤ 2560) (hsc : hs_Sc g μ) (hk : ∀ μ2 E2 t2, hx_I (n + 1) E2 t2 μ2 → hs_WS g p l e R s m args below meth c cells slots 8 Q 1752 (hl_L (nI i)) [] μ2) : hs_WS g p l e R s m args below meth c cells slots 8 Q 1547 (hl_L (nI i)) [] μ := by
  obtain ⟨v, μ1, μ2, e1, e2, E2, t2, h2⟩ := hx_twin 196 h (hs_gX g (i + 1))
  have e1 : hc_H_twin 200 (hs_gX g (i + 1)) μ = some (some (vI v), μ1) := e1
  have e2 : hc_M_twin 200 (hs_gX g (i + 1)) μ1 = some (some (vI v), μ2) := e2
  have a1 := hl_arg hsc (i := i) (k := 1) (by omega) hN
  refine hg_sound C hl_ck (stops := [1557]) 60 1547 (hl_L (nI i)) [] μ 1557 (hl_L (nI i)) [vI v] μ1 ?_ ?_
  · show hl_go 200 [1557] 60 1547 (hl_L (nI i)) [] μ = _
    rw [hl_a_43, if_pos (show hs_in (nI i + (1 : Int32)) _ = true from a1.1), show μ.1 70 0 (nI i + (1 : Int32)).toNatClampNeg = hs_gX g (i + 1) from a1.2, e1, hx_bI]
  refine hl_sc (d := 200) (own := 13) (cc := code) (fun hsc1 => ?_)
  have b1 := hl_arg hsc1 (i := i) (k := 1) (by omega) hN
  refine hg_sound C hl_ck (stops := [1752]) 60 1557 (hl_L (nI i)) [vI v] μ1 1752 (hl_L (nI i)) [] μ2 ?_ (hk μ2 E2 t2 h2)
  show hl_go 200 [1752] 60 1557 (hl_L (nI i)) [vI v] μ1 = _
  rw [hl_b_43, if_pos (show hs_in (nI i + (1 : Int32)) _ = true from b1.1), show μ1.1 70 0 (nI i + (1 : Int32)).toNatClampNeg = hs_gX g (i + 1) from b1.2, e2, hx_bI, if_pos rfl]
theorem hl_op_44 {g : hs_G} {p : Program} {l : Launch} {e : Env} {R : Room} {s : State} {m : MethodId} {args : Array Value} {below : List Frame} {meth : Method} {c : Code} {cells slots : Nat} {Q : State → Prop} (C : hs_Ctx g p l R s m args c cells slots 13 code 8 (hs_call 200)) {n : Nat} (hn : n ≤ 512) {E : hx_Env} {t : hx_St} {μ : hs_M} (h : hx_I n E t μ) {i : Nat} (hi : i + 5 ≤ hs_gN g) (hN : hs_gN g ≤ 2560) (hsc : hs_Sc g μ) (hk : ∀ μ2 E2 t2, hx_I (n + 1) E2 t2 μ2 → hs_WS g p l e R s m args below meth c cells slots 8 Q 1752 (hl_L (nI i)) [] μ2) : hs_WS g p l e R s m args below meth c cells slots 8 Q 1572 (hl_L (nI i)) [] μ := by
  obtain ⟨v, μ1, μ2, e1, e2, E2, t2, h2⟩ := hx_odds 88 hn h (hs_gX g (i + 1)) (hs_gX g (i + 2))
  have e1 : hc_H_odds 200 (hs_gX g (i + 1)) (hs_gX g (i + 2)) μ = some (some (vI v), μ1) := e1
  have e2 : hc_M_odds 200 (hs_gX g (i + 1)) (hs_gX g (i + 2)) μ1 = some (some (vI v), μ2) := e2
  have a1 := hl_arg hsc (i := i) (k := 1) (by omega) hN
  have a2 := hl_arg hsc (i := i) (k := 2) (by omega) hN
  refine hg_sound C hl_ck (stops := [1588]) 60 1572 (hl_L (nI i)) [] μ 1588 (hl_L (nI i)) [vI v] μ1 ?_ ?_
  · show hl_go 200 [1588] 60 1572 (hl_L (nI i)) [] μ = _
    rw [hl_a_44, if_pos (show hs_in (nI i + (1 : Int32)) _ = true from a1.1), if_pos (show hs_in (nI i + (2 : Int32)) _ = true from a2.1), show μ.1 70 0 (nI i + (1 : Int32)).toNatClampNeg = hs_gX g (i + 1) from a1.2, show μ.1 70 0 (nI i + (2 : Int32)).toNatClampNeg = hs_gX g (i + 2) from a2.2, e1, hx_bI]
  refine hl_sc (d := 200) (own := 13) (cc := code) (fun hsc1 => ?_)
  have b1 := hl_arg hsc1 (i := i) (k := 1) (by omega) hN
  have b2 := hl_arg hsc1 (i := i) (k := 2) (by omega) hN
  refine hg_sound C hl_ck (stops := [1752]) 60 1588 (hl_L (nI i)) [vI v] μ1 1752 (hl_L (nI i)) [] μ2 ?_ (hk μ2 E2 t2 h2)
  show hl_go 200 [1752] 60 1588 (hl_L (nI i)) [vI v] μ1 = _
  rw [hl_b_44, if_pos (show hs_in (nI i + (1 : Int32)) _ = true from b1.1), if_pos (show hs_in (nI i + (2 : Int32)) _ = true from b2.1), show μ1.1 70 0 (nI i + (1 : Int32)).toNatClampNeg = hs_gX g (i + 1) from b1.2, show μ1.1 70 0 (nI i + (2 : Int32)).toNatClampNeg = hs_gX g (i + 2) from b2.2, e2, hx_bI, if_pos rfl]
theorem hl_op_45 {g : hs_G} {p : Program} {l : Launch} {e : Env} {R : Room} {s : State} {m : MethodId} {args : Array Value} {below : List Frame} {meth : Method} {c : Code} {cells slots : Nat} {Q : State → Prop} (C : hs_Ctx g p l R s m args c cells slots 13 code 8 (hs_call 200)) {n : Nat} (hn : n ≤ 512) {E : hx_Env} {t : hx_St} {μ : hs_M} (h : hx_I n E t μ) {i : Nat} (hi : i + 5 ≤ hs_gN g) (hN : hs_gN g ≤ 2560) (hsc : hs_Sc g μ) (hk : ∀ μ2 E2 t2, hx_I (n + 1) E2 t2 μ2 → hs_WS g p l e R s m args below meth c cells slots 8 Q 1752 (hl_L (nI i)) [] μ2) : hs_WS g p l e R s m args below meth c cells slots 8 Q 1609 (hl_L (nI i)) [] μ := by
  obtain ⟨v, μ1, μ2, e1, e2, E2, t2, h2⟩ := hx_likely 88 hn h
  have e1 : hc_H_likely 200  μ = some (some (vI v), μ1) := e1
  have e2 : hc_M_likely 200  μ1 = some (some (vI v), μ2) := e2
  refine hg_sound C hl_ck (stops := [1613]) 60 1609 (hl_L (nI i)) [] μ 1613 (hl_L (nI i)) [vI v] μ1 ?_ ?_
  · show hl_go 200 [1613] 60 1609 (hl_L (nI i)) [] μ = _
    rw [hl_a_45, e1, hx_bI]
  refine hl_sc (d := 200) (own := 13) (cc := code) (fun hsc1 => ?_)
  refine hg_sound C hl_ck (stops := [1752]) 60 1613 (hl_L (nI i)) [vI v] μ1 1752 (hl_L (nI i)) [] μ2 ?_ (hk μ2 E2 t2 h2)
  show hl_go 200 [1752] 60 1613 (hl_L (nI i)) [vI v] μ1 = _
  rw [hl_b_45, e2, hx_bI, if_pos rfl]
theorem hl_op_46 {g : hs_G} {p : Program} {l : Launch} {e : Env} {R : Room} {s : State} {m : MethodId} {args : Array Value} {below : List Frame} {meth : Method} {c : Code} {cells slots : Nat} {Q : State → Prop} (C : hs_Ctx g p l R s m args c cells slots 13 code 8 (hs_call 200)) {n : Nat} (hn : n ≤ 512) {E : hx_Env} {t : hx_St} {μ : hs_M} (h : hx_I n E t μ) {i : Nat} (hi : i + 5 ≤ hs_gN g) (hN : hs_gN g ≤ 2560) (hsc : hs_Sc g μ) (hk : ∀ μ2 E2 t2, hx_I (n + 1) E2 t2 μ2 → hs_WS g p l e R s m args below meth c cells slots 8 Q 1752 (hl_L (nI i)) [] μ2) : hs_WS g p l e R s m args below meth c cells slots 8 Q 1622 (hl_L (nI i)) [] μ := by
  obtain ⟨v, μ1, μ2, e1, e2, E2, t2, h2⟩ := hx_keep 196 h (hs_gX g (i + 1))
  have e1 : hc_H_keep 200 (hs_gX g (i + 1)) μ = some (some (vI v), μ1) := e1
  have e2 : hc_M_keep 200 (hs_gX g (i + 1)) μ1 = some (some (vI v), μ2) := e2
  have a1 := hl_arg hsc (i := i) (k := 1) (by omega) hN
  refine hg_sound C hl_ck (stops := [1632]) 60 1622 (hl_L (nI i)) [] μ 1632 (hl_L (nI i)) [vI v] μ1 ?_ ?_
  · show hl_go 200 [1632] 60 1622 (hl_L (nI i)) [] μ = _
    rw [hl_a_46, if_pos (show hs_in (nI i + (1 : Int32)) _ = true from a1.1), show μ.1 70 0 (nI i + (1 : Int32)).toNatClampNeg = hs_gX g (i + 1) from a1.2, e1, hx_bI]
  refine hl_sc (d := 200) (own := 13) (cc := code) (fun hsc1 => ?_)
  have b1 := hl_arg hsc1 (i := i) (k := 1) (by omega) hN
  refine hg_sound C hl_ck (stops := [1752]) 60 1632 (hl_L (nI i)) [vI v] μ1 1752 (hl_L (nI i)) [] μ2 ?_ (hk μ2 E2 t2 h2)
  show hl_go 200 [1752] 60 1632 (hl_L (nI i)) [vI v] μ1 = _
  rw [hl_b_46, if_pos (show hs_in (nI i + (1 : Int32)) _ = true from b1.1), show μ1.1 70 0 (nI i + (1 : Int32)).toNatClampNeg = hs_gX g (i + 1) from b1.2, e2, hx_bI, if_pos rfl]
theorem hl_op_47 {g : hs_G} {p : Program} {l : Launch} {e : Env} {R : Room} {s : State} {m : MethodId} {args : Array Value} {below : List Frame} {meth : Method} {c : Code} {cells slots : Nat} {Q : State → Prop} (C : hs_Ctx g p l R s m args c cells slots 13 code 8 (hs_call 200)) {n : Nat} (hn : n ≤ 512) {E : hx_Env} {t : hx_St} {μ : hs_M} (h : hx_I n E t μ) {i : Nat} (hi : i + 5 ≤ hs_gN g) (hN : hs_gN g ≤ 2560) (hsc : hs_Sc g μ) (hk : ∀ μ2 E2 t2, hx_I (n + 1) E2 t2 μ2 → hs_WS g p l e R s m args below meth c cells slots 8 Q 1752 (hl_L (nI i)) [] μ2) : hs_WS g p l e R s m args below meth c cells slots 8 Q 1647 (hl_L (nI i)) [] μ := by
  obtain ⟨v, μ1, μ2, e1, e2, E2, t2, h2⟩ := hx_again 196 h (hs_gX g (i + 1))
  have e1 : hc_H_again 200 (hs_gX g (i + 1)) μ = some (some (vI v), μ1) := e1
  have e2 : hc_M_again 200 (hs_gX g (i + 1)) μ1 = some (some (vI v), μ2) := e2
  have a1 := hl_arg hsc (i := i) (k := 1) (by omega) hN
  refine hg_sound C hl_ck (stops := [1657]) 60 1647 (hl_L (nI i)) [] μ 1657 (hl_L (nI i)) [vI v] μ1 ?_ ?_
  · show hl_go 200 [1657] 60 1647 (hl_L (nI i)) [] μ = _
    rw [hl_a_47, if_pos (show hs_in (nI i + (1 : Int32)) _ = true from a1.1), show μ.1 70 0 (nI i + (1 : Int32)).toNatClampNeg = hs_gX g (i + 1) from a1.2, e1, hx_bI]
  refine hl_sc (d := 200) (own := 13) (cc := code) (fun hsc1 => ?_)
  have b1 := hl_arg hsc1 (i := i) (k := 1) (by omega) hN
  refine hg_sound C hl_ck (stops := [1752]) 60 1657 (hl_L (nI i)) [vI v] μ1 1752 (hl_L (nI i)) [] μ2 ?_ (hk μ2 E2 t2 h2)
  show hl_go 200 [1752] 60 1657 (hl_L (nI i)) [vI v] μ1 = _
  rw [hl_b_47, if_pos (show hs_in (nI i + (1 : Int32)) _ = true from b1.1), show μ1.1 70 0 (nI i + (1 : Int32)).toNatClampNeg = hs_gX g (i + 1) from b1.2, e2, hx_bI, if_pos rfl]
theorem hl_op_48 {g : hs_G} {p : Program} {l : Launch} {e : Env} {R : Room} {s : State} {m : MethodId} {args : Array Value} {below : List Frame} {meth : Method} {c : Code} {cells slots : Nat} {Q : State → Prop} (C : hs_Ctx g p l R s m args c cells slots 13 code 8 (hs_call 200)) {n : Nat} (hn : n ≤ 512) {E : hx_Env} {t : hx_St} {μ : hs_M} (h : hx_I n E t μ) {i : Nat} (hi : i + 5 ≤ hs_gN g) (hN : hs_gN g ≤ 2560) (hsc : hs_Sc g μ) (hk : ∀ μ2 E2 t2, hx_I (n + 1) E2 t2 μ2 → hs_WS g p l e R s m args below meth c cells slots 8 Q 1752 (hl_L (nI i)) [] μ2) : hs_WS g p l e R s m args below meth c cells slots 8 Q 1672 (hl_L (nI i)) [] μ := by
  obtain ⟨v, μ1, μ2, e1, e2, E2, t2, h2⟩ := hx_count 198 h (hs_gX g (i + 1))
  have e1 : hc_H_count 200 (hs_gX g (i + 1)) μ = some (some (vI v), μ1) := e1
  have e2 : hc_M_count 200 (hs_gX g (i + 1)) μ1 = some (some (vI v), μ2) := e2
  have a1 := hl_arg hsc (i := i) (k := 1) (by omega) hN
  refine hg_sound C hl_ck (stops := [1682]) 60 1672 (hl_L (nI i)) [] μ 1682 (hl_L (nI i)) [vI v] μ1 ?_ ?_
  · show hl_go 200 [1682] 60 1672 (hl_L (nI i)) [] μ = _
    rw [hl_a_48, if_pos (show hs_in (nI i + (1 : Int32)) _ = true from a1.1), show μ.1 70 0 (nI i + (1 : Int32)).toNatClampNeg = hs_gX g (i + 1) from a1.2, e1, hx_bI]
  refine hl_sc (d := 200) (own := 13) (cc := code) (fun hsc1 => ?_)
  have b1 := hl_arg hsc1 (i := i) (k := 1) (by omega) hN
  refine hg_sound C hl_ck (stops := [1752]) 60 1682 (hl_L (nI i)) [vI v] μ1 1752 (hl_L (nI i)) [] μ2 ?_ (hk μ2 E2 t2 h2)
  show hl_go 200 [1752] 60 1682 (hl_L (nI i)) [vI v] μ1 = _
  rw [hl_b_48, if_pos (show hs_in (nI i + (1 : Int32)) _ = true from b1.1), show μ1.1 70 0 (nI i + (1 : Int32)).toNatClampNeg = hs_gX g (i + 1) from b1.2, e2, hx_bI, if_pos rfl]
