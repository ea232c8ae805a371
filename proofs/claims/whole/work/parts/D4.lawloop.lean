/-! ===== the law's loop ===== -/
theorem hl_d1755 : decode code 1755 = .ok (.goto (-1732), 3) := (hs_at_ok hl_ck (show hs_at hs_klaw 1755 = some _ from rfl)).1
/-- one call -/
theorem hl_iter {g : hs_G} {p : Program} {l : Launch} {e : Env} {R : Room} {s : State} {m : MethodId} {args : Array Value} {below : List Frame} {meth : Method} {c : Code} {Q : State → Prop} {cells slots : Nat} (C : hs_Ctx g p l R s m args c cells slots 13 code 8 (hs_call 200)) (hSx : hl_Sx g s) (hlt : l.stackTraces = false) (hRf : 300 ≤ R.frames) (hRl : 20000 ≤ R.locals) (hRc : cells + 1 ≤ R.cells ∧ slots + 6 ≤ R.slots) {n : Nat} (hn : n ≤ 512) {E : hx_Env} {t : hx_St} {μ : hs_M} (h : hx_I n E t μ) {i : Nat} (hi : i + 5 ≤ hs_gN g) (hN : hs_gN g ≤ 2560) (hsc : hs_Sc g μ) (x : Int32)
    (hk : ∀ μ2 E2 t2, hx_I (n + 1) E2 t2 μ2 → hs_WS g p l e R s m args below meth c (cells + 1) (slots + 6) 8 Q 1752 (hl_L (nI i)) [] μ2) : hs_WS g p l e R s m args below meth c cells slots 8 Q 39 (hl_L (nI i)) [vI (x &&& 63)] μ := by
  have hk0 : ∀ μ2 E2 t2, hx_I (n + 1) E2 t2 μ2 → hs_WS g p l e R s m args below meth c cells slots 8 Q 1752 (hl_L (nI i)) [] μ2 := fun μ2 E2 t2 h2 ls H locs hr => W.widen (by omega) (by omega) (hk μ2 E2 t2 h2 ls H locs hr)
  obtain ⟨j, hj, ej⟩ := pk_andE x (m := 63) 6 (by decide)
  have hj : j < 64 := hj
  rw [ej]
  rcases (show j = 0 ∨ j = 1 ∨ j = 2 ∨ j = 3 ∨ j = 4 ∨ j = 5 ∨ j = 6 ∨ j = 7 ∨ j = 8 ∨ j = 9 ∨ j = 10 ∨ j = 11 ∨ j = 12 ∨ j = 13 ∨ j = 14 ∨ j = 15 ∨ j = 16 ∨ j = 17 ∨ j = 18 ∨ j = 19 ∨ j = 20 ∨ j = 21 ∨ j = 22 ∨ j = 23 ∨ j = 24 ∨ j = 25 ∨ j = 26 ∨ j = 27 ∨ j = 28 ∨ j = 29 ∨ j = 30 ∨ j = 31 ∨ j = 32 ∨ j = 33 ∨ j = 34 ∨ j = 35 ∨ j = 36 ∨ j = 37 ∨ j = 38 ∨ j = 39 ∨ j = 40 ∨ j = 41 ∨ j = 42 ∨ j = 43 ∨ j = 44 ∨ j = 45 ∨ j = 46 ∨ j = 47 ∨ j = 48 ∨ j = 49 ∨ j = 50 ∨ j = 51 ∨ j = 52 ∨ j = 53 ∨ j = 54 ∨ j = 55 ∨ j = 56 ∨ j = 57 ∨ j = 58 ∨ j = 59 ∨ j = 60 ∨ j = 61 ∨ j = 62 ∨ j = 63 by omega) with rfl | rfl | rfl | rfl | rfl | rfl | rfl | rfl | rfl | rfl | rfl | rfl | rfl | rfl | rfl | rfl | rfl | rfl | rfl | rfl | rfl | rfl | rfl | rfl | rfl | rfl | rfl | rfl | rfl | rfl | rfl | rfl | rfl | rfl | rfl | rfl | rfl | rfl | rfl | rfl | rfl | rfl | rfl | rfl | rfl | rfl | rfl | rfl | rfl | rfl | rfl | rfl | rfl | rfl | rfl | rfl | rfl | rfl | rfl | rfl | rfl | rfl | rfl | rfl
  · refine hg_sound C hl_ck (stops := []) 1 39 (hl_L (nI i)) [vI (nI 0)] μ 252 (hl_L (nI i)) [] μ (hl_sw_0 (nI i) μ) ?_
    exact hl_op_0 C hn h hi hN hsc hk0
  · refine hg_sound C hl_ck (stops := []) 1 39 (hl_L (nI i)) [vI (nI 1)] μ 277 (hl_L (nI i)) [] μ (hl_sw_1 (nI i) μ) ?_
    exact hl_op_1 C hn h hi hN hsc hk0
  · refine hg_sound C hl_ck (stops := []) 1 39 (hl_L (nI i)) [vI (nI 2)] μ 302 (hl_L (nI i)) [] μ (hl_sw_2 (nI i) μ) ?_
    exact hl_op_2 C hn h hi hN hsc hk0
  · refine hg_sound C hl_ck (stops := []) 1 39 (hl_L (nI i)) [vI (nI 3)] μ 315 (hl_L (nI i)) [] μ (hl_sw_3 (nI i) μ) ?_
    exact hl_op_3 C hn h hi hN hsc hk0
  · refine hg_sound C hl_ck (stops := []) 1 39 (hl_L (nI i)) [vI (nI 4)] μ 328 (hl_L (nI i)) [] μ (hl_sw_4 (nI i) μ) ?_
    exact hl_op_4 C hn h hi hN hsc hk0
  · refine hg_sound C hl_ck (stops := []) 1 39 (hl_L (nI i)) [vI (nI 5)] μ 353 (hl_L (nI i)) [] μ (hl_sw_5 (nI i) μ) ?_
    exact hl_op_5 C hSx hlt hRf hRl hRc hn h hi hN hsc hk
  · refine hg_sound C hl_ck (stops := []) 1 39 (hl_L (nI i)) [vI (nI 6)] μ 421 (hl_L (nI i)) [] μ (hl_sw_6 (nI i) μ) ?_
    exact hl_op_6 C hSx hlt hRf hRl hRc hn h hi hN hsc hk
  · refine hg_sound C hl_ck (stops := []) 1 39 (hl_L (nI i)) [vI (nI 7)] μ 489 (hl_L (nI i)) [] μ (hl_sw_7 (nI i) μ) ?_
    exact hl_op_7 C hn h hi hN hsc hk0
  · refine hg_sound C hl_ck (stops := []) 1 39 (hl_L (nI i)) [vI (nI 8)] μ 538 (hl_L (nI i)) [] μ (hl_sw_8 (nI i) μ) ?_
    exact hl_op_8 C hn h hi hN hsc hk0
  · refine hg_sound C hl_ck (stops := []) 1 39 (hl_L (nI i)) [vI (nI 9)] μ 575 (hl_L (nI i)) [] μ (hl_sw_9 (nI i) μ) ?_
    exact hl_op_9 C hn h hi hN hsc hk0
  · refine hg_sound C hl_ck (stops := []) 1 39 (hl_L (nI i)) [vI (nI 10)] μ 636 (hl_L (nI i)) [] μ (hl_sw_10 (nI i) μ) ?_
    exact hl_op_10 C hn h hi hN hsc hk0
  · refine hg_sound C hl_ck (stops := []) 1 39 (hl_L (nI i)) [vI (nI 11)] μ 661 (hl_L (nI i)) [] μ (hl_sw_11 (nI i) μ) ?_
    exact hl_op_11 C hn h hi hN hsc hk0
  · refine hg_sound C hl_ck (stops := []) 1 39 (hl_L (nI i)) [vI (nI 12)] μ 686 (hl_L (nI i)) [] μ (hl_sw_12 (nI i) μ) ?_
    exact hl_op_12 C hn h hi hN hsc hk0
  · refine hg_sound C hl_ck (stops := []) 1 39 (hl_L (nI i)) [vI (nI 13)] μ 699 (hl_L (nI i)) [] μ (hl_sw_13 (nI i) μ) ?_
    exact hl_op_13 C hn h hi hN hsc hk0
  · refine hg_sound C hl_ck (stops := []) 1 39 (hl_L (nI i)) [vI (nI 14)] μ 712 (hl_L (nI i)) [] μ (hl_sw_14 (nI i) μ) ?_
    exact hl_op_14 C hSx hlt hRf hRl hRc hn h hi hN hsc hk
  · refine hg_sound C hl_ck (stops := []) 1 39 (hl_L (nI i)) [vI (nI 15)] μ 780 (hl_L (nI i)) [] μ (hl_sw_15 (nI i) μ) ?_
    exact hl_op_15 C hn h hi hN hsc hk0
  · refine hg_sound C hl_ck (stops := []) 1 39 (hl_L (nI i)) [vI (nI 16)] μ 817 (hl_L (nI i)) [] μ (hl_sw_16 (nI i) μ) ?_
    exact hl_op_16 C hn h hi hN hsc hk0
  · refine hg_sound C hl_ck (stops := []) 1 39 (hl_L (nI i)) [vI (nI 17)] μ 854 (hl_L (nI i)) [] μ (hl_sw_17 (nI i) μ) ?_
    exact hl_op_17 C hn h hi hN hsc hk0
  · refine hg_sound C hl_ck (stops := []) 1 39 (hl_L (nI i)) [vI (nI 18)] μ 879 (hl_L (nI i)) [] μ (hl_sw_18 (nI i) μ) ?_
    exact hl_op_18 C hn h hi hN hsc hk0
  · refine hg_sound C hl_ck (stops := []) 1 39 (hl_L (nI i)) [vI (nI 19)] μ 892 (hl_L (nI i)) [] μ (hl_sw_19 (nI i) μ) ?_
    exact hl_op_19 C hn h hi hN hsc hk0
  · refine hg_sound C hl_ck (stops := []) 1 39 (hl_L (nI i)) [vI (nI 20)] μ 917 (hl_L (nI i)) [] μ (hl_sw_20 (nI i) μ) ?_
    exact hl_op_20 C hn h hi hN hsc hk0
  · refine hg_sound C hl_ck (stops := []) 1 39 (hl_L (nI i)) [vI (nI 21)] μ 954 (hl_L (nI i)) [] μ (hl_sw_21 (nI i) μ) ?_
    exact hl_op_21 C hn h hi hN hsc hk0
  · refine hg_sound C hl_ck (stops := []) 1 39 (hl_L (nI i)) [vI (nI 22)] μ 979 (hl_L (nI i)) [] μ (hl_sw_22 (nI i) μ) ?_
    exact hl_op_22 C hn h hi hN hsc hk0
  · refine hg_sound C hl_ck (stops := []) 1 39 (hl_L (nI i)) [vI (nI 23)] μ 1004 (hl_L (nI i)) [] μ (hl_sw_23 (nI i) μ) ?_
    exact hl_op_23 C hn h hi hN hsc hk0
  · refine hg_sound C hl_ck (stops := []) 1 39 (hl_L (nI i)) [vI (nI 24)] μ 1029 (hl_L (nI i)) [] μ (hl_sw_24 (nI i) μ) ?_
    exact hl_op_24 C hn h hi hN hsc hk0
  · refine hg_sound C hl_ck (stops := []) 1 39 (hl_L (nI i)) [vI (nI 25)] μ 1066 (hl_L (nI i)) [] μ (hl_sw_25 (nI i) μ) ?_
    exact hl_op_25 C hn h hi hN hsc hk0
  · refine hg_sound C hl_ck (stops := []) 1 39 (hl_L (nI i)) [vI (nI 26)] μ 1103 (hl_L (nI i)) [] μ (hl_sw_26 (nI i) μ) ?_
    exact hl_op_26 C hn h hi hN hsc hk0
  · refine hg_sound C hl_ck (stops := []) 1 39 (hl_L (nI i)) [vI (nI 27)] μ 1128 (hl_L (nI i)) [] μ (hl_sw_27 (nI i) μ) ?_
    exact hl_op_27 C hn h hi hN hsc hk0
  · refine hg_sound C hl_ck (stops := []) 1 39 (hl_L (nI i)) [vI (nI 28)] μ 1165 (hl_L (nI i)) [] μ (hl_sw_28 (nI i) μ) ?_
    exact hl_op_28 C hSx hlt hRf hRl hRc hn h hi hN hsc hk
  · refine hg_sound C hl_ck (stops := []) 1 39 (hl_L (nI i)) [vI (nI 29)] μ 1233 (hl_L (nI i)) [] μ (hl_sw_29 (nI i) μ) ?_
    exact hl_op_29 C hn h hi hN hsc hk0
  · refine hg_sound C hl_ck (stops := []) 1 39 (hl_L (nI i)) [vI (nI 30)] μ 1258 (hl_L (nI i)) [] μ (hl_sw_30 (nI i) μ) ?_
    exact hl_op_30 C hn h hi hN hsc hk0
  · refine hg_sound C hl_ck (stops := []) 1 39 (hl_L (nI i)) [vI (nI 31)] μ 1295 (hl_L (nI i)) [] μ (hl_sw_31 (nI i) μ) ?_
    exact hl_op_31 C hn h hi hN hsc hk0
  · refine hg_sound C hl_ck (stops := []) 1 39 (hl_L (nI i)) [vI (nI 32)] μ 1332 (hl_L (nI i)) [] μ (hl_sw_32 (nI i) μ) ?_
    exact hl_op_32 C hn h hi hN hsc hk0
  · refine hg_sound C hl_ck (stops := []) 1 39 (hl_L (nI i)) [vI (nI 33)] μ 1345 (hl_L (nI i)) [] μ (hl_sw_33 (nI i) μ) ?_
    exact hl_op_33 C hn h hi hN hsc hk0
  · refine hg_sound C hl_ck (stops := []) 1 39 (hl_L (nI i)) [vI (nI 34)] μ 1382 (hl_L (nI i)) [] μ (hl_sw_34 (nI i) μ) ?_
    exact hl_op_34 C hn h hi hN hsc hk0
  · refine hg_sound C hl_ck (stops := []) 1 39 (hl_L (nI i)) [vI (nI 35)] μ 1395 (hl_L (nI i)) [] μ (hl_sw_35 (nI i) μ) ?_
    exact hl_op_35 C hn h hi hN hsc hk0
  · refine hg_sound C hl_ck (stops := []) 1 39 (hl_L (nI i)) [vI (nI 36)] μ 1408 (hl_L (nI i)) [] μ (hl_sw_36 (nI i) μ) ?_
    exact hl_op_36 C hn h hi hN hsc hk0
  · refine hg_sound C hl_ck (stops := []) 1 39 (hl_L (nI i)) [vI (nI 37)] μ 1433 (hl_L (nI i)) [] μ (hl_sw_37 (nI i) μ) ?_
    exact hl_op_37 C hn h hi hN hsc hk0
  · refine hg_sound C hl_ck (stops := []) 1 39 (hl_L (nI i)) [vI (nI 38)] μ 1446 (hl_L (nI i)) [] μ (hl_sw_38 (nI i) μ) ?_
    exact hl_op_38 C hn h hi hN hsc hk0
  · refine hg_sound C hl_ck (stops := []) 1 39 (hl_L (nI i)) [vI (nI 39)] μ 1459 (hl_L (nI i)) [] μ (hl_sw_39 (nI i) μ) ?_
    exact hl_op_39 C hn h hi hN hsc hk0
  · refine hg_sound C hl_ck (stops := []) 1 39 (hl_L (nI i)) [vI (nI 40)] μ 1496 (hl_L (nI i)) [] μ (hl_sw_40 (nI i) μ) ?_
    exact hl_op_40 C hn h hi hN hsc hk0
  · refine hg_sound C hl_ck (stops := []) 1 39 (hl_L (nI i)) [vI (nI 41)] μ 1509 (hl_L (nI i)) [] μ (hl_sw_41 (nI i) μ) ?_
    exact hl_op_41 C hn h hi hN hsc hk0
  · refine hg_sound C hl_ck (stops := []) 1 39 (hl_L (nI i)) [vI (nI 42)] μ 1534 (hl_L (nI i)) [] μ (hl_sw_42 (nI i) μ) ?_
    exact hl_op_42 C hn h hi hN hsc hk0
  · refine hg_sound C hl_ck (stops := []) 1 39 (hl_L (nI i)) [vI (nI 43)] μ 1547 (hl_L (nI i)) [] μ (hl_sw_43 (nI i) μ) ?_
    exact hl_op_43 C hn h hi hN hsc hk0
  · refine hg_sound C hl_ck (stops := []) 1 39 (hl_L (nI i)) [vI (nI 44)] μ 1572 (hl_L (nI i)) [] μ (hl_sw_44 (nI i) μ) ?_
    exact hl_op_44 C hn h hi hN hsc hk0
  · refine hg_sound C hl_ck (stops := []) 1 39 (hl_L (nI i)) [vI (nI 45)] μ 1609 (hl_L (nI i)) [] μ (hl_sw_45 (nI i) μ) ?_
    exact hl_op_45 C hn h hi hN hsc hk0
  · refine hg_sound C hl_ck (stops := []) 1 39 (hl_L (nI i)) [vI (nI 46)] μ 1622 (hl_L (nI i)) [] μ (hl_sw_46 (nI i) μ) ?_
    exact hl_op_46 C hn h hi hN hsc hk0
  · refine hg_sound C hl_ck (stops := []) 1 39 (hl_L (nI i)) [vI (nI 47)] μ 1647 (hl_L (nI i)) [] μ (hl_sw_47 (nI i) μ) ?_
    exact hl_op_47 C hn h hi hN hsc hk0
  · refine hg_sound C hl_ck (stops := []) 1 39 (hl_L (nI i)) [vI (nI 48)] μ 1672 (hl_L (nI i)) [] μ (hl_sw_48 (nI i) μ) ?_
    exact hl_op_48 C hn h hi hN hsc hk0
  · refine hg_sound C hl_ck (stops := []) 1 39 (hl_L (nI i)) [vI (nI 49)] μ 1697 (hl_L (nI i)) [] μ (hl_sw_49 (nI i) μ) ?_
    exact hl_op_49 C hSx hlt hRf hRl hRc hn h hi hN hsc hk
  · refine hg_sound C hl_ck (stops := []) 1 39 (hl_L (nI i)) [vI (nI 50)] μ 1752 (hl_L (nI i)) [] μ (hl_sw_50 (nI i) μ) ?_
    exact hk0 μ E t (hx_Im h (by omega))
  · refine hg_sound C hl_ck (stops := []) 1 39 (hl_L (nI i)) [vI (nI 51)] μ 1752 (hl_L (nI i)) [] μ (hl_sw_51 (nI i) μ) ?_
    exact hk0 μ E t (hx_Im h (by omega))
  · refine hg_sound C hl_ck (stops := []) 1 39 (hl_L (nI i)) [vI (nI 52)] μ 1752 (hl_L (nI i)) [] μ (hl_sw_52 (nI i) μ) ?_
    exact hk0 μ E t (hx_Im h (by omega))
  · refine hg_sound C hl_ck (stops := []) 1 39 (hl_L (nI i)) [vI (nI 53)] μ 1752 (hl_L (nI i)) [] μ (hl_sw_53 (nI i) μ) ?_
    exact hk0 μ E t (hx_Im h (by omega))
  · refine hg_sound C hl_ck (stops := []) 1 39 (hl_L (nI i)) [vI (nI 54)] μ 1752 (hl_L (nI i)) [] μ (hl_sw_54 (nI i) μ) ?_
    exact hk0 μ E t (hx_Im h (by omega))
  · refine hg_sound C hl_ck (stops := []) 1 39 (hl_L (nI i)) [vI (nI 55)] μ 1752 (hl_L (nI i)) [] μ (hl_sw_55 (nI i) μ) ?_
    exact hk0 μ E t (hx_Im h (by omega))
  · refine hg_sound C hl_ck (stops := []) 1 39 (hl_L (nI i)) [vI (nI 56)] μ 1752 (hl_L (nI i)) [] μ (hl_sw_56 (nI i) μ) ?_
    exact hk0 μ E t (hx_Im h (by omega))
  · refine hg_sound C hl_ck (stops := []) 1 39 (hl_L (nI i)) [vI (nI 57)] μ 1752 (hl_L (nI i)) [] μ (hl_sw_57 (nI i) μ) ?_
    exact hk0 μ E t (hx_Im h (by omega))
  · refine hg_sound C hl_ck (stops := []) 1 39 (hl_L (nI i)) [vI (nI 58)] μ 1752 (hl_L (nI i)) [] μ (hl_sw_58 (nI i) μ) ?_
    exact hk0 μ E t (hx_Im h (by omega))
  · refine hg_sound C hl_ck (stops := []) 1 39 (hl_L (nI i)) [vI (nI 59)] μ 1752 (hl_L (nI i)) [] μ (hl_sw_59 (nI i) μ) ?_
    exact hk0 μ E t (hx_Im h (by omega))
  · refine hg_sound C hl_ck (stops := []) 1 39 (hl_L (nI i)) [vI (nI 60)] μ 1752 (hl_L (nI i)) [] μ (hl_sw_60 (nI i) μ) ?_
    exact hk0 μ E t (hx_Im h (by omega))
  · refine hg_sound C hl_ck (stops := []) 1 39 (hl_L (nI i)) [vI (nI 61)] μ 1752 (hl_L (nI i)) [] μ (hl_sw_61 (nI i) μ) ?_
    exact hk0 μ E t (hx_Im h (by omega))
  · refine hg_sound C hl_ck (stops := []) 1 39 (hl_L (nI i)) [vI (nI 62)] μ 1752 (hl_L (nI i)) [] μ (hl_sw_62 (nI i) μ) ?_
    exact hk0 μ E t (hx_Im h (by omega))
  · refine hg_sound C hl_ck (stops := []) 1 39 (hl_L (nI i)) [vI (nI 63)] μ 1752 (hl_L (nI i)) [] μ (hl_sw_63 (nI i) μ) ?_
    exact hk0 μ E t (hx_Im h (by omega))
theorem hl_loop {g : hs_G} {p : Program} {l : Launch} {e : Env} {R : Room} {s : State} {m : MethodId} {args : Array Value} {below : List Frame} {meth : Method} {c : Code} {Q : State → Prop} {c0 s0 : Nat} (C : hs_Ctx g p l R s m args c c0 s0 13 code 8 (hs_call 200)) (hSx : hl_Sx g s) (hlt : l.stackTraces = false) (hRf : 300 ≤ R.frames) (hRl : 20000 ≤ R.locals) (hN : hs_gN g ≤ 2560) {c1 s1 : Nat} (hc1 : c1 ≤ R.cells) (hs1 : s1 ≤ R.slots) (hend : ∀ cells slots μ, cells ≤ c1 → slots ≤ s1 → hs_WS g p l e R s m args below meth c cells slots 8 Q 1759 [none, none, none, none, none, none, none, none] [vI (1 : Int32)] μ) : ∀ (r k cells slots : Nat) (E : hx_Env) (t : hx_St) (μ : hs_M), hs_gN g ≤ 5 * (k + r) + 4 → k + r ≤ 512 → cells + r ≤ c1 → slots + 6 * r ≤ s1 → hx_I k E t μ → hs_WS g p l e R s m args below meth c cells slots 8 Q 23 (hl_L (nI (5 * k))) [] μ
  | r, k, cells, slots, E, t, μ, h1, h2, h3, h4, h => by
    refine hl_sc (d := 200) (own := 13) (cc := code) (fun hsc => ?_)
    have C' := hl_up C (show cells ≤ R.cells by omega) (show slots ≤ R.slots by omega)
    have e0 : (Int32.ofNat (hs_gN g) - (5 : Int32)).toInt = (hs_gN g : Int) - 5 := pk_sub_toInt (b := 5) (by omega) (by omega)
    have e1 : (nI (5 * k)).toInt = ((5 * k : Nat) : Int) := nI_toInt (by omega)
    by_cases hc : 5 * k + 5 ≤ hs_gN g
    · cases r with
      | zero => omega
      | succ r =>
        refine hg_sound C' hl_ck (stops := [1758, 39]) 60 23 (hl_L (nI (5 * k))) [] μ 39 (hl_L (nI (5 * k))) [vI (hs_gX g (5 * k) &&& 63)] μ ?_ ?_
        · show hl_go 200 [1758, 39] 60 23 (hl_L (nI (5 * k))) [] μ = _
          rw [hl_q_23, hsc.2, if_neg (show ¬ Int32.ofNat (hs_gN g) - 5 < nI (5 * k) by rw [hx_li, e0, e1]; omega), if_pos (hx_in (by omega) (by omega)), nI_clamp (by omega), hsc.1 _ (by omega)]
        refine hl_iter C' hSx hlt hRf hRl ⟨by omega, by omega⟩ (n := k) (by omega) h (i := 5 * k) (by omega) hN hsc (hs_gX g (5 * k)) (fun μ2 E2 t2 h5 => ?_)
        have C2 := hl_up C (show cells + 1 ≤ R.cells by omega) (show slots + 6 ≤ R.slots by omega)
        refine hg_sound C2 hl_ck (stops := []) 60 1752 (hl_L (nI (5 * k))) [] μ2 1755 (hl_L (nI (5 * k) + 5)) [] μ2 (hl_q_1752 200 (nI (5 * k)) μ2) ?_
        intro ls H locs hr
        have ih := hl_loop C hSx hlt hRf hRl hN hc1 hs1 hend r (k + 1) (cells + 1) (slots + 6) E2 t2 μ2 (by omega) (by omega) (by omega) (by omega) h5
        rw [show 5 * (k + 1) = 5 * k + 5 by omega, ← nI_add] at ih
        exact lv_goto C2.1 C2.2.1 hl_d1755 (tgt := 23) (by decide) (ih ls H locs hr)
    · refine hg_sound C' hl_ck (stops := [1758, 39]) 60 23 (hl_L (nI (5 * k))) [] μ 1758 [none, none, none, none, none, none, none, none] [] μ ?_ ?_
      · show hl_go 200 [1758, 39] 60 23 (hl_L (nI (5 * k))) [] μ = _
        rw [hl_q_23, hsc.2, if_pos (show Int32.ofNat (hs_gN g) - 5 < nI (5 * k) by rw [hx_li, e0, e1]; omega)]
      exact hg_sound C' hl_ck (stops := []) 60 1758 _ [] μ 1759 _ [vI (1 : Int32)] μ (hl_q_1758 200 μ) (hend cells slots μ (by omega) (by omega))
termination_by r => r
