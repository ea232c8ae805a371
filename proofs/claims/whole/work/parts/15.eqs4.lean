/-! ===== the equations of the methods, 4 ===== -/
noncomputable def he_Will_readBracket_34 (d : Nat)  (μ : hs_M) : Option (Option hs_V × hs_M) := hs_ev d 101 34 [none, none, none] [] μ
theorem hp_Will_readBracket : hs_prog 101 = (hs_k101, 3, 3) := rfl
set_option maxRecDepth 100000 in
theorem hq_Will_readBracket (d : Nat) (x2 : Int32) (μ : hs_M)  : hc_Will_readBracket (d + 1) x2 μ =
  hs_bI (hc_Will_readComparison d (x2 + (1 : Int32)) (hs_wI μ 10 0 5 ((μ.1 10 0 5) + (1 : Int32)))) (fun r1 μ1 => (if r1 = 0 then he_Will_readBracket_34 d μ1 else hs_bI (hc_Text_signAt d (μ1.1 10 0 5) μ1) (fun r2 μ2 => (if r2 = (41 : Int32) then hs_rz (1 : Int32) (hs_wI μ2 10 0 5 ((μ2.1 10 0 5) + (1 : Int32))) else he_Will_readBracket_34 d μ2)))) := by exact (hs_ev_go hp_Will_readBracket [34] 32 0 _ [] μ).trans rfl
set_option maxRecDepth 100000 in
theorem hq_Will_readBracket_34 (d : Nat)  (μ : hs_M)  : he_Will_readBracket_34 d  μ =
  hs_rz (0 : Int32) μ := by exact (hs_ev_go hp_Will_readBracket [34] 32 34 _ [] μ).trans rfl
noncomputable def he_Will_readNumber_4 (d : Nat) (x2 : Int32) (x3 : Int32) (μ : hs_M) : Option (Option hs_V × hs_M) := hs_ev d 102 4 [some (vR 10 0), some (vR 7 0), some (vI x2), some (vI x3)] [] μ
noncomputable def he_Will_readNumber_51 (d : Nat) (x2 : Int32) (μ : hs_M) : Option (Option hs_V × hs_M) := hs_ev d 102 51 [some (vR 10 0), none, some (vI x2), none] [] μ
theorem hp_Will_readNumber : hs_prog 102 = (hs_k102, 4, 0) := rfl
set_option maxRecDepth 100000 in
theorem hq_Will_readNumber (d : Nat)  (μ : hs_M)  : hc_Will_readNumber (d + 1)  μ =
  he_Will_readNumber_4 d (0 : Int32) (0 : Int32) μ := by exact (hs_ev_go hp_Will_readNumber [4, 51] 37 0 _ [] μ).trans rfl
set_option maxRecDepth 100000 in
theorem hq_Will_readNumber_4 (d : Nat) (x2 : Int32) (x3 : Int32) (μ : hs_M)  : he_Will_readNumber_4 d x2 x3 μ =
  (if x3 < (3 : Int32) then hs_bI (hc_Text_digitAt d (μ.1 10 0 5) μ) (fun r1 μ1 => (if r1 = (-1 : Int32) then he_Will_readNumber_51 d x2 μ1 else hs_bI (hc_Text_digitAt d (μ1.1 10 0 5) μ1) (fun r2 μ2 => he_Will_readNumber_4 d ((x2 * (10 : Int32)) + r2) (x3 + (1 : Int32)) (hs_wI μ2 10 0 5 ((μ2.1 10 0 5) + (1 : Int32)))))) else he_Will_readNumber_51 d x2 μ) := by exact (hs_ev_go hp_Will_readNumber [4, 51] 37 4 _ [] μ).trans rfl
set_option maxRecDepth 100000 in
theorem hq_Will_readNumber_51 (d : Nat) (x2 : Int32) (μ : hs_M)  : he_Will_readNumber_51 d x2 μ =
  hs_bV (hc_Will_emit d x2 μ) (fun μ1 => some (none, μ1)) := by exact (hs_ev_go hp_Will_readNumber [4, 51] 37 51 _ [] μ).trans rfl
noncomputable def he_Will_emit_36 (d : Nat)  (μ : hs_M) : Option (Option hs_V × hs_M) := hs_ev d 103 36 [none, none] [] μ
theorem hp_Will_emit : hs_prog 103 = (hs_k103, 2, 0) := rfl
set_option maxRecDepth 100000 in
theorem hq_Will_emit (d : Nat) (x1 : Int32) (μ : hs_M)  : hc_Will_emit (d + 1) x1 μ =
  (if (μ.1 10 0 4) < 0 then he_Will_emit_36 d μ else (if (μ.1 10 0 4) < (40 : Int32) then (if hs_in (μ.1 10 0 4) 40 then he_Will_emit_36 d (hs_wI (hs_wI μ 22 0 ((μ.1 10 0 4).toNatClampNeg) x1) 10 0 4 ((μ.1 10 0 4) + (1 : Int32))) else none) else he_Will_emit_36 d μ)) := by exact (hs_ev_go hp_Will_emit [36] 23 0 _ [] μ).trans rfl
set_option maxRecDepth 100000 in
theorem hq_Will_emit_36 (d : Nat)  (μ : hs_M)  : he_Will_emit_36 d  μ =
  some (none, μ) := by exact (hs_ev_go hp_Will_emit [36] 23 36 _ [] μ).trans rfl
noncomputable def he_Will_isFact_76 (d : Nat)  (μ : hs_M) : Option (Option hs_V × hs_M) := hs_ev d 104 76 [none] [] μ
noncomputable def he_Will_isFact_78 (d : Nat)  (μ : hs_M) : Option (Option hs_V × hs_M) := hs_ev d 104 78 [none] [] μ
theorem hp_Will_isFact : hs_prog 104 = (hs_k104, 1, 3) := rfl
set_option maxRecDepth 100000 in
theorem hq_Will_isFact (d : Nat) (x0 : Int32) (μ : hs_M)  : hc_Will_isFact (d + 1) x0 μ =
  (if x0 = (105 : Int32) then he_Will_isFact_76 d μ else (if x0 = (106 : Int32) then he_Will_isFact_78 d μ else (if x0 = (107 : Int32) then he_Will_isFact_78 d μ else (if x0 = (108 : Int32) then he_Will_isFact_78 d μ else (if x0 = (109 : Int32) then he_Will_isFact_78 d μ else (if x0 = (110 : Int32) then he_Will_isFact_76 d μ else (if x0 = (111 : Int32) then he_Will_isFact_76 d μ else (if x0 = (112 : Int32) then he_Will_isFact_76 d μ else (if x0 = (113 : Int32) then he_Will_isFact_76 d μ else (if x0 = (114 : Int32) then he_Will_isFact_78 d μ else (if x0 = (115 : Int32) then he_Will_isFact_76 d μ else (if x0 = (116 : Int32) then he_Will_isFact_76 d μ else (if x0 = (117 : Int32) then he_Will_isFact_78 d μ else (if x0 = (118 : Int32) then he_Will_isFact_76 d μ else (if x0 = (119 : Int32) then he_Will_isFact_76 d μ else he_Will_isFact_78 d μ))))))))))))))) := by exact (hs_ev_go hp_Will_isFact [76, 78] 9 0 _ [] μ).trans rfl
set_option maxRecDepth 100000 in
theorem hq_Will_isFact_76 (d : Nat)  (μ : hs_M)  : he_Will_isFact_76 d  μ =
  hs_rz (1 : Int32) μ := by exact (hs_ev_go hp_Will_isFact [76, 78] 9 76 _ [] μ).trans rfl
set_option maxRecDepth 100000 in
theorem hq_Will_isFact_78 (d : Nat)  (μ : hs_M)  : he_Will_isFact_78 d  μ =
  hs_rz (0 : Int32) μ := by exact (hs_ev_go hp_Will_isFact [76, 78] 9 78 _ [] μ).trans rfl
noncomputable def he_Will_value_15 (d : Nat) (j1 : Nat) (x3 : Int32) (x4 : Int32) (x5 : Int32) (μ : hs_M) : Option (Option hs_V × hs_M) := hs_ev d 105 15 [some (vR 10 0), some (vR 6 j1), some (vR 8 0), some (vI x3), some (vI x4), some (vI x5), none, none, none] [] μ
noncomputable def he_Will_value_174 (d : Nat) (j1 : Nat) (x3 : Int32) (x4 : Int32) (x5 : Int32) (μ : hs_M) : Option (Option hs_V × hs_M) := hs_ev d 105 174 [some (vR 10 0), some (vR 6 j1), some (vR 8 0), some (vI x3), some (vI x4), some (vI x5), none, none, none] [] μ
noncomputable def he_Will_value_180 (d : Nat)  (μ : hs_M) : Option (Option hs_V × hs_M) := hs_ev d 105 180 [some (vR 10 0), none, none, none, none, none, none, none, none] [] μ
theorem hp_Will_value : hs_prog 105 = (hs_k105, 9, 1) := rfl
set_option maxRecDepth 100000 in
theorem hq_Will_value (d : Nat) (j1 : Nat) (x3 : Int32) (μ : hs_M)  : hc_Will_value (d + 1) j1 x3 μ =
  (if (μ.1 10 0 3) = 0 then some (some (vI (1 : Int32)), μ) else he_Will_value_15 d j1 x3 (0 : Int32) (0 : Int32) μ) := by exact (hs_ev_go hp_Will_value [15, 174, 180] 100 0 _ [] μ).trans rfl
set_option maxRecDepth 100000 in
theorem hq_Will_value_15 (d : Nat) (j1 : Nat) (x3 : Int32) (x4 : Int32) (x5 : Int32) (μ : hs_M)  : he_Will_value_15 d j1 x3 x4 x5 μ =
  (if x5 < (μ.1 10 0 3) then (if x5 < (40 : Int32) then (if hs_in x5 40 then (if (μ.1 21 0 (x5.toNatClampNeg)) < (2000 : Int32) then (if x4 < (40 : Int32) then (if (μ.1 21 0 (x5.toNatClampNeg)) < (1000 : Int32) then (if hs_in x4 40 then he_Will_value_174 d j1 x3 (x4 + (1 : Int32)) x5 (hs_wI μ 23 0 (x4.toNatClampNeg) (μ.1 21 0 (x5.toNatClampNeg))) else none) else hs_bI (hc_Will_fact d ((μ.1 21 0 (x5.toNatClampNeg)) - (1000 : Int32)) j1 x3 μ) (fun r1 μ1 => (if hs_in x4 40 then he_Will_value_174 d j1 x3 (x4 + (1 : Int32)) x5 (hs_wI μ1 23 0 (x4.toNatClampNeg) r1) else none))) else some (some (vI (0 : Int32)), μ)) else (if (μ.1 21 0 (x5.toNatClampNeg)) = (3000 : Int32) then (if (x4 - (0 : Int32)) < (1 : Int32) then some (some (vI (0 : Int32)), μ) else (if hs_in ((x4 - (0 : Int32)) - (1 : Int32)) 40 then (if hs_in ((x4 - (0 : Int32)) - (1 : Int32)) 40 then he_Will_value_174 d j1 x3 (x4 - (0 : Int32)) x5 (hs_wI μ 23 0 (((x4 - (0 : Int32)) - (1 : Int32)).toNatClampNeg) (-(μ.1 23 0 (((x4 - (0 : Int32)) - (1 : Int32)).toNatClampNeg)))) else none) else none)) else (if (x4 - (1 : Int32)) < (1 : Int32) then some (some (vI (0 : Int32)), μ) else (if hs_in ((x4 - (1 : Int32)) - (1 : Int32)) 40 then (if hs_in (x4 - (1 : Int32)) 40 then hs_bI (hc_Will_combine d ((μ.1 21 0 (x5.toNatClampNeg)) - (2000 : Int32)) (μ.1 23 0 (((x4 - (1 : Int32)) - (1 : Int32)).toNatClampNeg)) (μ.1 23 0 ((x4 - (1 : Int32)).toNatClampNeg)) μ) (fun r2 μ2 => (if hs_in ((x4 - (1 : Int32)) - (1 : Int32)) 40 then he_Will_value_174 d j1 x3 (x4 - (1 : Int32)) x5 (hs_wI μ2 23 0 (((x4 - (1 : Int32)) - (1 : Int32)).toNatClampNeg) r2) else none)) else none) else none)))) else none) else he_Will_value_180 d μ) else he_Will_value_180 d μ) := by exact (hs_ev_go hp_Will_value [15, 174, 180] 100 15 _ [] μ).trans rfl
set_option maxRecDepth 100000 in
theorem hq_Will_value_174 (d : Nat) (j1 : Nat) (x3 : Int32) (x4 : Int32) (x5 : Int32) (μ : hs_M)  : he_Will_value_174 d j1 x3 x4 x5 μ =
  he_Will_value_15 d j1 x3 x4 (x5 + (1 : Int32)) μ := by exact (hs_ev_go hp_Will_value [15, 174, 180] 100 174 _ [] μ).trans rfl
set_option maxRecDepth 100000 in
theorem hq_Will_value_180 (d : Nat)  (μ : hs_M)  : he_Will_value_180 d  μ =
  some (some (vI (μ.1 23 0 0)), μ) := by exact (hs_ev_go hp_Will_value [15, 174, 180] 100 180 _ [] μ).trans rfl
theorem hp_Will_combine : hs_prog 106 = (hs_k106, 3, 1) := rfl
set_option maxRecDepth 100000 in
theorem hq_Will_combine (d : Nat) (x0 : Int32) (x1 : Int32) (x2 : Int32) (μ : hs_M)  : hc_Will_combine (d + 1) x0 x1 x2 μ =
  (if x0 = (42 : Int32) then some (some (vI (x1 * x2)), μ) else (if x0 = (43 : Int32) then some (some (vI (x1 + x2)), μ) else (if x0 = (45 : Int32) then some (some (vI (x1 - x2)), μ) else (if x0 = (47 : Int32) then (if x2 = 0 then some (some (vI (0 : Int32)), μ) else (if x2 = 0 then none else some (some (vI (x1 / x2)), μ))) else (if x0 = (60 : Int32) then (if x1 < x2 then some (some (vI (1 : Int32)), μ) else some (some (vI (0 : Int32)), μ)) else (if x0 = (62 : Int32) then (if x2 < x1 then some (some (vI (1 : Int32)), μ) else some (some (vI (0 : Int32)), μ)) else (if x1 = x2 then some (some (vI (1 : Int32)), μ) else some (some (vI (0 : Int32)), μ)))))))) := by exact (hs_ev_go hp_Will_combine [] 46 0 _ [] μ).trans rfl
noncomputable def he_Will_fact_145 (d : Nat) (j1 : Nat) (x3 : Int32) (μ : hs_M) : Option (Option hs_V × hs_M) := hs_ev d 107 145 [none, some (vR 6 j1), none, some (vI x3), none] [] μ
theorem hp_Will_fact : hs_prog 107 = (hs_k107, 5, 1) := rfl
set_option maxRecDepth 100000 in
theorem hq_Will_fact (d : Nat) (x0 : Int32) (j1 : Nat) (x3 : Int32) (μ : hs_M)  : hc_Will_fact (d + 1) x0 j1 x3 μ =
  (if x0 = (105 : Int32) then some (some (vI x3), μ) else (if x0 = (106 : Int32) then he_Will_fact_145 d j1 x3 μ else (if x0 = (107 : Int32) then he_Will_fact_145 d j1 x3 μ else (if x0 = (108 : Int32) then he_Will_fact_145 d j1 x3 μ else (if x0 = (109 : Int32) then he_Will_fact_145 d j1 x3 μ else (if x0 = (110 : Int32) then some (some (vI (μ.1 6 j1 0)), μ) else (if x0 = (111 : Int32) then he_Will_fact_145 d j1 x3 μ else (if x0 = (112 : Int32) then (if hs_in x3 8 then some (some (vI (μ.1 15 0 (x3.toNatClampNeg))), μ) else none) else (if x0 = (113 : Int32) then (if (μ.1 6 j1 1) < 0 then some (some (vI (-1 : Int32)), μ) else (if hs_in (μ.1 6 j1 1) 8 then some (some (vI (μ.1 15 0 ((μ.1 6 j1 1).toNatClampNeg))), μ) else none)) else (if x0 = (114 : Int32) then he_Will_fact_145 d j1 x3 μ else (if x0 = (115 : Int32) then some (some (vI (μ.1 6 j1 2)), μ) else (if x0 = (116 : Int32) then some (some (vI (μ.1 6 j1 5)), μ) else (if x0 = (117 : Int32) then he_Will_fact_145 d j1 x3 μ else (if x0 = (118 : Int32) then (if (μ.1 6 j1 1) < 0 then some (some (vI (0 : Int32)), μ) else (if hs_in (μ.1 6 j1 1) 8 then some (some (vI (μ.1 24 j1 ((μ.1 6 j1 1).toNatClampNeg))), μ) else none)) else (if x0 = (119 : Int32) then (if hs_in x3 8 then some (some (vI (μ.1 24 j1 (x3.toNatClampNeg))), μ) else none) else he_Will_fact_145 d j1 x3 μ))))))))))))))) := by exact (hs_ev_go hp_Will_fact [145] 52 0 _ [] μ).trans rfl
set_option maxRecDepth 100000 in
theorem hq_Will_fact_145 (d : Nat) (j1 : Nat) (x3 : Int32) (μ : hs_M)  : he_Will_fact_145 d j1 x3 μ =
  (if hs_in x3 8 then some (some (vI (μ.1 25 j1 (x3.toNatClampNeg))), μ) else none) := by exact (hs_ev_go hp_Will_fact [145] 52 145 _ [] μ).trans rfl
theorem hp_H_sign : hs_prog 108 = (hs_k108, 2, 1) := rfl
set_option maxRecDepth 100000 in
theorem hq_H_sign (d : Nat) (x1 : Int32) (μ : hs_M)  : hc_H_sign (d + 1) x1 μ =
  hs_bI (hc_Text_append d x1 μ) (fun r1 μ1 => (if r1 = 0 then some (some (vI (-1 : Int32)), μ1) else some (some (vI (μ1.1 7 0 1)), μ1))) := by exact (hs_ev_go hp_H_sign [] 14 0 _ [] μ).trans rfl
noncomputable def he_H_end_15 (d : Nat)  (μ : hs_M) : Option (Option hs_V × hs_M) := hs_ev d 109 15 [none, none] [] μ
theorem hp_H_end : hs_prog 109 = (hs_k109, 2, 3) := rfl
set_option maxRecDepth 100000 in
theorem hq_H_end (d : Nat) (x1 : Int32) (μ : hs_M)  : hc_H_end (d + 1) x1 μ =
  (if x1 < 0 then he_H_end_15 d μ else (if (μ.1 7 0 1) < x1 then he_H_end_15 d μ else hs_rz (1 : Int32) (hs_wI μ 7 0 1 x1))) := by exact (hs_ev_go hp_H_end [15] 18 0 _ [] μ).trans rfl
set_option maxRecDepth 100000 in
theorem hq_H_end_15 (d : Nat)  (μ : hs_M)  : he_H_end_15 d  μ =
  hs_rz (0 : Int32) μ := by exact (hs_ev_go hp_H_end [15] 18 15 _ [] μ).trans rfl
noncomputable def he_H_town_51 (d : Nat) (x2 : Int32) (x3 : Int32) (μ : hs_M) : Option (Option hs_V × hs_M) := hs_ev d 110 51 [some (vR 11 0), none, some (vI x2), some (vI x3)] [] μ
theorem hp_H_town : hs_prog 110 = (hs_k110, 4, 1) := rfl
set_option maxRecDepth 100000 in
theorem hq_H_town (d : Nat)  (μ : hs_M)  : hc_H_town (d + 1)  μ =
  (if (μ.1 7 0 1) = 0 then some (some (vI (0 : Int32)), μ) else hs_bI (hc_Town_readLines d μ) (fun r1 μ1 => (if r1 = (-1 : Int32) then he_H_town_51 d (μ1.1 8 0 8) (0 : Int32) (hs_wI μ1 7 0 1 (0 : Int32)) else some (some (vI ((-1 : Int32) - r1)), (hs_wI μ1 7 0 1 (0 : Int32)))))) := by exact (hs_ev_go hp_H_town [51] 57 0 _ [] μ).trans rfl
set_option maxRecDepth 100000 in
theorem hq_H_town_51 (d : Nat) (x2 : Int32) (x3 : Int32) (μ : hs_M)  : he_H_town_51 d x2 x3 μ =
  (if x3 < x2 then hs_bI (hc_Town_arriving d (μ.1 8 0 9) μ) (fun r1 μ1 => hs_bV (hc_State_welcome d 0 (μ.1 8 0 9) r1 μ1) (fun μ2 => hs_bV (hc_Town_countOneMore d μ2) (fun μ3 => he_H_town_51 d x2 (x3 + (1 : Int32)) μ3))) else hs_bV (hc_Past_forgetSteps d μ) (fun μ4 => some (some (vI x2), μ4))) := by exact (hs_ev_go hp_H_town [51] 57 51 _ [] μ).trans rfl
theorem hp_H_will : hs_prog 111 = (hs_k111, 2, 1) := rfl
set_option maxRecDepth 100000 in
theorem hq_H_will (d : Nat)  (μ : hs_M)  : hc_H_will (d + 1)  μ =
  hs_bI (hc_Will_read d μ) (fun r1 μ1 => (if r1 = (-1 : Int32) then some (some (vI (0 : Int32)), (hs_wI μ1 7 0 1 (0 : Int32))) else some (some (vI ((-1 : Int32) - r1)), (hs_wI μ1 7 0 1 (0 : Int32))))) := by exact (hs_ev_go hp_H_will [] 22 0 _ [] μ).trans rfl
theorem hp_H_habit : hs_prog 112 = (hs_k112, 3, 1) := rfl
set_option maxRecDepth 100000 in
theorem hq_H_habit (d : Nat) (x1 : Int32) (μ : hs_M)  : hc_H_habit (d + 1) x1 μ =
  hs_bI (hc_Town_has d x1 μ) (fun r1 μ1 => (if r1 = 0 then some (some (vI (-100 : Int32)), (hs_wI μ1 7 0 1 (0 : Int32))) else hs_bI (hc_Town_readHabit d x1 μ1) (fun r2 μ2 => (if r2 = (-1 : Int32) then (if hs_in x1 8 then some (some (vI (μ2.1 17 0 (x1.toNatClampNeg))), (hs_wI μ2 7 0 1 (0 : Int32))) else none) else some (some (vI ((-1 : Int32) - r2)), (hs_wI μ2 7 0 1 (0 : Int32))))))) := by exact (hs_ev_go hp_H_habit [] 38 0 _ [] μ).trans rfl
theorem hp_H_of : hs_prog 113 = (hs_k113, 3, 1) := rfl
set_option maxRecDepth 100000 in
theorem hq_H_of (d : Nat) (x1 : Int32) (x2 : Int32) (μ : hs_M)  : hc_H_of (d + 1) x1 x2 μ =
  hs_bI (hc_Town_has d x1 μ) (fun r1 μ1 => (if r1 = 0 then some (none, μ1) else (if x2 = (0 : Int32) then (if hs_in x1 8 then some (some (vI (μ1.1 24 0 (x1.toNatClampNeg))), μ1) else none) else (if x2 = (1 : Int32) then (if hs_in x1 8 then some (some (vI (μ1.1 15 0 (x1.toNatClampNeg))), μ1) else none) else (if x2 = (2 : Int32) then (if hs_in x1 8 then some (some (vI (μ1.1 16 0 (x1.toNatClampNeg))), μ1) else none) else (if x2 = (3 : Int32) then hs_bI (hc_State_lives d 0 x1 μ1) (fun r4 μ4 => (if r4 = 0 then some (some (vI (0 : Int32)), μ4) else some (some (vI (1 : Int32)), μ4))) else (if x2 = (4 : Int32) then (if hs_in x1 8 then some (some (vI (μ1.1 25 0 (x1.toNatClampNeg))), μ1) else none) else (if x2 = (5 : Int32) then (if hs_in x1 8 then hs_bI (hc_Scale_shows d (μ1.1 24 0 (x1.toNatClampNeg)) μ1) (fun r3 μ3 => some (some (vI r3), μ3)) else none) else (if x2 = (6 : Int32) then hs_bI (hc_Will_value d 0 x1 μ1) (fun r2 μ2 => some (some (vI r2), μ2)) else (if x2 = (7 : Int32) then (if hs_in x1 8 then some (some (vI (μ1.1 17 0 (x1.toNatClampNeg))), μ1) else none) else some (none, μ1))))))))))) := by exact (hs_ev_go hp_H_of [] 75 0 _ [] μ).trans rfl
noncomputable def he_H_change_28 (d : Nat)  (μ : hs_M) : Option (Option hs_V × hs_M) := hs_ev d 114 28 [none, none, none] [] μ
theorem hp_H_change : hs_prog 114 = (hs_k114, 3, 1) := rfl
set_option maxRecDepth 100000 in
theorem hq_H_change (d : Nat) (x1 : Int32) (x2 : Int32) (μ : hs_M)  : hc_H_change (d + 1) x1 x2 μ =
  hs_bI (hc_Town_has d x1 μ) (fun r1 μ1 => (if r1 = 0 then he_H_change_28 d μ1 else (if x2 < 0 then he_H_change_28 d μ1 else (if hs_in x1 8 then (if x2 < (μ1.1 17 0 (x1.toNatClampNeg)) then hs_bI (hc_Town_changeAt d x1 x2 μ1) (fun r2 μ2 => some (some (vI r2), μ2)) else he_H_change_28 d μ1) else none)))) := by exact (hs_ev_go hp_H_change [28] 27 0 _ [] μ).trans rfl
set_option maxRecDepth 100000 in
theorem hq_H_change_28 (d : Nat)  (μ : hs_M)  : he_H_change_28 d  μ =
  some (none, μ) := by exact (hs_ev_go hp_H_change [28] 27 28 _ [] μ).trans rfl
noncomputable def he_H_set_15 (d : Nat)  (μ : hs_M) : Option (Option hs_V × hs_M) := hs_ev d 115 15 [none, none, none, none] [] μ
noncomputable def he_H_set_46 (d : Nat) (x1 : Int32) (x2 : Int32) (x3 : Int32) (μ : hs_M) : Option (Option hs_V × hs_M) := hs_ev d 115 46 [some (vR 11 0), some (vI x1), some (vI x2), some (vI x3)] [] μ
noncomputable def he_H_set_69 (d : Nat) (x1 : Int32) (x2 : Int32) (x3 : Int32) (μ : hs_M) : Option (Option hs_V × hs_M) := hs_ev d 115 69 [some (vR 11 0), some (vI x1), some (vI x2), some (vI x3)] [] μ
noncomputable def he_H_set_93 (d : Nat)  (μ : hs_M) : Option (Option hs_V × hs_M) := hs_ev d 115 93 [none, none, none, none] [] μ
theorem hp_H_set : hs_prog 115 = (hs_k115, 4, 1) := rfl
set_option maxRecDepth 100000 in
theorem hq_H_set (d : Nat) (x1 : Int32) (x2 : Int32) (x3 : Int32) (μ : hs_M)  : hc_H_set (d + 1) x1 x2 x3 μ =
  hs_bI (hc_Town_has d x2 μ) (fun r1 μ1 => (if r1 = 0 then he_H_set_15 d μ1 else (if x3 < 0 then he_H_set_15 d μ1 else (if x1 = 0 then (if x3 < (1 : Int32) then he_H_set_46 d x1 x2 x3 μ1 else (if (999 : Int32) < x3 then he_H_set_46 d x1 x2 x3 μ1 else hs_bI (hc_H_exchange d 24 x2 x3 μ1) (fun r2 μ2 => some (some (vI r2), μ2)))) else he_H_set_46 d x1 x2 x3 μ1)))) := by exact (hs_ev_go hp_H_set [15, 46, 69, 93] 55 0 _ [] μ).trans rfl
set_option maxRecDepth 100000 in
theorem hq_H_set_15 (d : Nat)  (μ : hs_M)  : he_H_set_15 d  μ =
  some (some (vI (-1 : Int32)), μ) := by exact (hs_ev_go hp_H_set [15, 46, 69, 93] 55 15 _ [] μ).trans rfl
set_option maxRecDepth 100000 in
theorem hq_H_set_46 (d : Nat) (x1 : Int32) (x2 : Int32) (x3 : Int32) (μ : hs_M)  : he_H_set_46 d x1 x2 x3 μ =
  (if x1 = (1 : Int32) then (if x3 < (4 : Int32) then hs_bI (hc_H_exchange d 15 x2 x3 μ) (fun r1 μ1 => some (some (vI r1), μ1)) else he_H_set_69 d x1 x2 x3 μ) else he_H_set_69 d x1 x2 x3 μ) := by exact (hs_ev_go hp_H_set [15, 46, 69, 93] 55 46 _ [] μ).trans rfl
set_option maxRecDepth 100000 in
theorem hq_H_set_69 (d : Nat) (x1 : Int32) (x2 : Int32) (x3 : Int32) (μ : hs_M)  : he_H_set_69 d x1 x2 x3 μ =
  (if x1 = (2 : Int32) then (if (9 : Int32) < x3 then he_H_set_93 d μ else hs_bI (hc_H_exchange d 16 x2 x3 μ) (fun r1 μ1 => some (some (vI r1), μ1))) else he_H_set_93 d μ) := by exact (hs_ev_go hp_H_set [15, 46, 69, 93] 55 69 _ [] μ).trans rfl
set_option maxRecDepth 100000 in
theorem hq_H_set_93 (d : Nat)  (μ : hs_M)  : he_H_set_93 d  μ =
  some (some (vI (-1 : Int32)), μ) := by exact (hs_ev_go hp_H_set [15, 46, 69, 93] 55 93 _ [] μ).trans rfl
noncomputable def he_H_scale_25 (d : Nat) (x1 : Int32) (x2 : Int32) (μ : hs_M) : Option (Option hs_V × hs_M) := hs_ev d 116 25 [some (vR 11 0), some (vI x1), some (vI x2)] [] μ
noncomputable def he_H_scale_52 (d : Nat)  (μ : hs_M) : Option (Option hs_V × hs_M) := hs_ev d 116 52 [none, none, none] [] μ
theorem hp_H_scale : hs_prog 116 = (hs_k116, 3, 3) := rfl
set_option maxRecDepth 100000 in
theorem hq_H_scale (d : Nat) (x1 : Int32) (x2 : Int32) (μ : hs_M)  : hc_H_scale (d + 1) x1 x2 μ =
  (if x1 = 0 then (if x2 < (1 : Int32) then he_H_scale_25 d x1 x2 μ else (if (9 : Int32) < x2 then he_H_scale_25 d x1 x2 μ else hs_rz (1 : Int32) (hs_wI μ 5 0 0 x2))) else he_H_scale_25 d x1 x2 μ) := by exact (hs_ev_go hp_H_scale [25, 52] 34 0 _ [] μ).trans rfl
set_option maxRecDepth 100000 in
theorem hq_H_scale_25 (d : Nat) (x1 : Int32) (x2 : Int32) (μ : hs_M)  : he_H_scale_25 d x1 x2 μ =
  (if x1 = (1 : Int32) then (if x2 < (-9 : Int32) then he_H_scale_52 d μ else (if (9 : Int32) < x2 then he_H_scale_52 d μ else hs_rz (1 : Int32) (hs_wI μ 5 0 1 x2))) else he_H_scale_52 d μ) := by exact (hs_ev_go hp_H_scale [25, 52] 34 25 _ [] μ).trans rfl
set_option maxRecDepth 100000 in
theorem hq_H_scale_52 (d : Nat)  (μ : hs_M)  : he_H_scale_52 d  μ =
  hs_rz (0 : Int32) μ := by exact (hs_ev_go hp_H_scale [25, 52] 34 52 _ [] μ).trans rfl
noncomputable def he_H_sheet_15 (d : Nat)  (μ : hs_M) : Option (Option hs_V × hs_M) := hs_ev d 117 15 [none, none, none, none, none, none, none, none, none] [] μ
noncomputable def he_H_sheet_29 (d : Nat) (x1 : Int32) (x2 : Int32) (x3 : Int32) (x4 : Int32) (μ : hs_M) : Option (Option hs_V × hs_M) := hs_ev d 117 29 [some (vR 11 0), some (vI x1), some (vI x2), some (vI x3), some (vI x4), none, none, none, none] [] μ
noncomputable def he_H_sheet_47 (d : Nat) (x1 : Int32) (x3 : Int32) (x4 : Int32) (x5 : Int32) (x6 : Int32) (x7 : Int32) (μ : hs_M) : Option (Option hs_V × hs_M) := hs_ev d 117 47 [some (vR 11 0), some (vI x1), none, some (vI x3), some (vI x4), some (vI x5), some (vI x6), some (vI x7), none] [] μ
theorem hp_H_sheet : hs_prog 117 = (hs_k117, 9, 1) := rfl
set_option maxRecDepth 100000 in
theorem hq_H_sheet (d : Nat) (x1 : Int32) (x2 : Int32) (x3 : Int32) (x4 : Int32) (μ : hs_M)  : hc_H_sheet (d + 1) x1 x2 x3 x4 μ =
  (if x1 < 0 then he_H_sheet_15 d μ else (if (3 : Int32) < x1 then he_H_sheet_15 d μ else (if (8 : Int32) < x2 then he_H_sheet_15 d μ else (if x1 = (3 : Int32) then he_H_sheet_29 d x1 x2 x3 x4 μ else (if x2 < 0 then some (some (vI (-2 : Int32)), μ) else he_H_sheet_29 d x1 x2 x3 x4 μ))))) := by exact (hs_ev_go hp_H_sheet [15, 29, 47] 71 0 _ [] μ).trans rfl
set_option maxRecDepth 100000 in
theorem hq_H_sheet_15 (d : Nat)  (μ : hs_M)  : he_H_sheet_15 d  μ =
  some (some (vI (-1 : Int32)), μ) := by exact (hs_ev_go hp_H_sheet [15, 29, 47] 71 15 _ [] μ).trans rfl
set_option maxRecDepth 100000 in
theorem hq_H_sheet_29 (d : Nat) (x1 : Int32) (x2 : Int32) (x3 : Int32) (x4 : Int32) (μ : hs_M)  : he_H_sheet_29 d x1 x2 x3 x4 μ =
  (if x1 = (3 : Int32) then he_H_sheet_47 d x1 x3 x4 (0 : Int32) (0 : Int32) (0 : Int32) μ else he_H_sheet_47 d x1 x3 x4 x2 (0 : Int32) (0 : Int32) μ) := by exact (hs_ev_go hp_H_sheet [15, 29, 47] 71 29 _ [] μ).trans rfl
set_option maxRecDepth 100000 in
theorem hq_H_sheet_47 (d : Nat) (x1 : Int32) (x3 : Int32) (x4 : Int32) (x5 : Int32) (x6 : Int32) (x7 : Int32) (μ : hs_M)  : he_H_sheet_47 d x1 x3 x4 x5 x6 x7 μ =
  (if x7 < (μ.1 8 0 9) then (if x7 < x5 then hs_bI (hc_H_asKind d x1 (x3 + (x7 * x4)) μ) (fun r1 μ1 => hs_bV (hc_State_putWeight d 0 x7 r1 μ1) (fun μ2 => (if hs_in x7 8 then he_H_sheet_47 d x1 x3 x4 x5 (x6 + (μ2.1 24 0 (x7.toNatClampNeg))) (x7 + (1 : Int32)) μ2 else none))) else hs_bV (hc_State_putWeight d 0 x7 (1 : Int32) μ) (fun μ3 => (if hs_in x7 8 then he_H_sheet_47 d x1 x3 x4 x5 (x6 + (μ3.1 24 0 (x7.toNatClampNeg))) (x7 + (1 : Int32)) μ3 else none))) else (if x1 = (3 : Int32) then some (some (vI (-3 : Int32)), μ) else some (some (vI x6), μ))) := by exact (hs_ev_go hp_H_sheet [15, 29, 47] 71 47 _ [] μ).trans rfl
theorem hp_H_stand : hs_prog 118 = (hs_k118, 3, 1) := rfl
set_option maxRecDepth 100000 in
theorem hq_H_stand (d : Nat) (x1 : Int32) (μ : hs_M)  : hc_H_stand (d + 1) x1 μ =
  hs_bI (hc_Town_everyone d μ) (fun r1 μ1 => (if (x1 &&& (r1 ^^^ (-1 : Int32))) = 0 then hs_bV (hc_Past_remember d 0 μ1) (fun μ2 => hs_bI (hc_H_passWeek d x1 (0 : Int32) μ2) (fun r3 μ3 => (if r3 = (-1 : Int32) then hs_bV (hc_Row_begin d (0 : Int64) μ3) (fun μ4 => hs_bI (hc_Math_max d r3 (0 : Int32) μ4) (fun r5 μ5 => hs_bV (hc_Row_add d (r5.toInt64) μ5) (fun μ6 => some (some (vI (μ6.1 6 0 1)), μ6)))) else hs_bV (hc_Row_begin d (1 : Int64) μ3) (fun μ7 => hs_bI (hc_Math_max d r3 (0 : Int32) μ7) (fun r8 μ8 => hs_bV (hc_Row_add d (r8.toInt64) μ8) (fun μ9 => some (some (vI (μ9.1 6 0 1)), μ9))))))) else some (some (vI (-2 : Int32)), μ1))) := by exact (hs_ev_go hp_H_stand [] 43 0 _ [] μ).trans rfl
noncomputable def he_H_weeks_10 (d : Nat)  (μ : hs_M) : Option (Option hs_V × hs_M) := hs_ev d 119 10 [none, none, none, none, none, none] [] μ
noncomputable def he_H_weeks_27 (d : Nat) (x1 : Int32) (μ : hs_M) : Option (Option hs_V × hs_M) := hs_ev d 119 27 [some (vR 11 0), some (vI x1), none, none, none, none] [] μ
noncomputable def he_H_weeks_34 (d : Nat) (x1 : Int32) (x2 : Int32) (x3 : Int32) (x4 : Int32) (μ : hs_M) : Option (Option hs_V × hs_M) := hs_ev d 119 34 [some (vR 11 0), some (vI x1), some (vI x2), some (vI x3), some (vI x4), none] [] μ
noncomputable def he_H_weeks_64 (d : Nat) (x1 : Int32) (x2 : Int32) (x3 : Int32) (x4 : Int32) (μ : hs_M) : Option (Option hs_V × hs_M) := hs_ev d 119 64 [some (vR 11 0), some (vI x1), some (vI x2), some (vI x3), some (vI x4), none] [] μ
theorem hp_H_weeks : hs_prog 119 = (hs_k119, 6, 1) := rfl
set_option maxRecDepth 100000 in
theorem hq_H_weeks (d : Nat) (x1 : Int32) (μ : hs_M)  : hc_H_weeks (d + 1) x1 μ =
  (if x1 < 0 then he_H_weeks_10 d μ else (if (99 : Int32) < x1 then he_H_weeks_10 d μ else (if 0 < x1 then hs_bV (hc_Past_remember d 0 μ) (fun μ1 => he_H_weeks_27 d x1 μ1) else he_H_weeks_27 d x1 μ))) := by exact (hs_ev_go hp_H_weeks [10, 27, 34, 64] 55 0 _ [] μ).trans rfl
set_option maxRecDepth 100000 in
theorem hq_H_weeks_10 (d : Nat)  (μ : hs_M)  : he_H_weeks_10 d  μ =
  some (some (vI (-1 : Int32)), μ) := by exact (hs_ev_go hp_H_weeks [10, 27, 34, 64] 55 10 _ [] μ).trans rfl
set_option maxRecDepth 100000 in
theorem hq_H_weeks_27 (d : Nat) (x1 : Int32) (μ : hs_M)  : he_H_weeks_27 d x1 μ =
  he_H_weeks_34 d x1 (0 : Int32) (0 : Int32) (0 : Int32) μ := by exact (hs_ev_go hp_H_weeks [10, 27, 34, 64] 55 27 _ [] μ).trans rfl
set_option maxRecDepth 100000 in
theorem hq_H_weeks_34 (d : Nat) (x1 : Int32) (x2 : Int32) (x3 : Int32) (x4 : Int32) (μ : hs_M)  : he_H_weeks_34 d x1 x2 x3 x4 μ =
  (if x4 < x1 then hs_bI (hc_H_passWeek d (0 : Int32) (255 : Int32) μ) (fun r1 μ1 => (if r1 = (-1 : Int32) then he_H_weeks_64 d x1 x2 x3 x4 μ1 else he_H_weeks_64 d x1 (x2 + (1 : Int32)) (x3 + r1) x4 μ1)) else hs_bV (hc_Row_begin d ((μ.1 6 0 1).toInt64) μ) (fun μ2 => hs_bV (hc_Row_add d (x3.toInt64) μ2) (fun μ3 => some (some (vI x2), μ3)))) := by exact (hs_ev_go hp_H_weeks [10, 27, 34, 64] 55 34 _ [] μ).trans rfl
set_option maxRecDepth 100000 in
theorem hq_H_weeks_64 (d : Nat) (x1 : Int32) (x2 : Int32) (x3 : Int32) (x4 : Int32) (μ : hs_M)  : he_H_weeks_64 d x1 x2 x3 x4 μ =
  he_H_weeks_34 d x1 x2 x3 (x4 + (1 : Int32)) μ := by exact (hs_ev_go hp_H_weeks [10, 27, 34, 64] 55 64 _ [] μ).trans rfl
theorem hp_H_year : hs_prog 120 = (hs_k120, 3, 1) := rfl
set_option maxRecDepth 100000 in
theorem hq_H_year (d : Nat)  (μ : hs_M)  : hc_H_year (d + 1)  μ =
  hs_bV (hc_Text_open d (60 : Int32) μ) (fun μ1 => hs_bI (hc_H_yearFault d μ1) (fun r2 μ2 => (if r2 = (-1 : Int32) then hs_bI (hc_H_passYear d μ2) (fun r3 μ3 => some (some (vI r3), (hs_wI μ3 7 0 1 (0 : Int32)))) else some (some (vI ((-1 : Int32) - r2)), (hs_wI μ2 7 0 1 (0 : Int32)))))) := by exact (hs_ev_go hp_H_year [] 26 0 _ [] μ).trans rfl
theorem hp_H_law : hs_prog 121 = (hs_k121, 1, 1) := rfl
set_option maxRecDepth 100000 in
theorem hq_H_law (d : Nat)  (μ : hs_M)  : hc_H_law (d + 1)  μ =
  (if (μ.1 6 0 1) = (-1 : Int32) then some (some (vI (-2 : Int32)), μ) else (if (μ.1 6 0 6) < (12 : Int32) then hs_bV (hc_Past_remember d 0 μ) (fun μ1 => hs_bI (hc_State_makeLaw d 0 μ1) (fun r2 μ2 => some (some (vI r2), μ2))) else some (some (vI (-3 : Int32)), μ))) := by exact (hs_ev_go hp_H_law [] 26 0 _ [] μ).trans rfl
noncomputable def he_H_laws_15 (d : Nat)  (μ : hs_M) : Option (Option hs_V × hs_M) := hs_ev d 122 15 [none, none, none] [] μ
theorem hp_H_laws : hs_prog 122 = (hs_k122, 3, 1) := rfl
set_option maxRecDepth 100000 in
theorem hq_H_laws (d : Nat) (x1 : Int32) (x2 : Int32) (μ : hs_M)  : hc_H_laws (d + 1) x1 x2 μ =
  (if x1 < 0 then he_H_laws_15 d μ else (if x1 < (μ.1 6 0 6) then (if x2 = (0 : Int32) then (if hs_in x1 12 then some (some (vI (μ.1 26 0 (x1.toNatClampNeg))), μ) else none) else (if x2 = (1 : Int32) then (if hs_in x1 12 then some (some (vI (μ.1 27 0 (x1.toNatClampNeg))), μ) else none) else (if x2 = (2 : Int32) then some (some (vI (((μ.1 6 0 4) >>> (x1 &&& 31)) &&& (1 : Int32))), μ) else (if x2 = (3 : Int32) then (if hs_in x1 12 then some (some (vI (μ.1 28 0 (x1.toNatClampNeg))), μ) else none) else some (none, μ))))) else he_H_laws_15 d μ)) := by exact (hs_ev_go hp_H_laws [15] 46 0 _ [] μ).trans rfl
set_option maxRecDepth 100000 in
theorem hq_H_laws_15 (d : Nat)  (μ : hs_M)  : he_H_laws_15 d  μ =
  some (none, μ) := by exact (hs_ev_go hp_H_laws [15] 46 15 _ [] μ).trans rfl
theorem hp_H_feed : hs_prog 123 = (hs_k123, 3, 1) := rfl
set_option maxRecDepth 100000 in
theorem hq_H_feed (d : Nat) (x1 : Int32) (x2 : Int32) (μ : hs_M)  : hc_H_feed (d + 1) x1 x2 μ =
  hs_bI (hc_H_eat d x1 x2 (1 : Int32) μ) (fun r1 μ1 => some (some (vI r1), μ1)) := by exact (hs_ev_go hp_H_feed [] 9 0 _ [] μ).trans rfl
theorem hp_H_fast : hs_prog 124 = (hs_k124, 3, 1) := rfl
set_option maxRecDepth 100000 in
theorem hq_H_fast (d : Nat) (x1 : Int32) (x2 : Int32) (μ : hs_M)  : hc_H_fast (d + 1) x1 x2 μ =
  hs_bI (hc_H_eat d x1 x2 (-1 : Int32) μ) (fun r1 μ1 => some (some (vI r1), μ1)) := by exact (hs_ev_go hp_H_fast [] 9 0 _ [] μ).trans rfl
theorem hp_H_dies : hs_prog 125 = (hs_k125, 2, 1) := rfl
set_option maxRecDepth 100000 in
theorem hq_H_dies (d : Nat) (x1 : Int32) (μ : hs_M)  : hc_H_dies (d + 1) x1 μ =
  hs_bI (hc_H_isThere d x1 μ) (fun r1 μ1 => (if r1 = 0 then some (some (vI (-1 : Int32)), μ1) else hs_bV (hc_Past_remember d 0 μ1) (fun μ2 => hs_bI (hc_State_bury d 0 x1 μ2) (fun r3 μ3 => some (some (vI r3), μ3))))) := by exact (hs_ev_go hp_H_dies [] 19 0 _ [] μ).trans rfl
theorem hp_H_undo : hs_prog 126 = (hs_k126, 1, 1) := rfl
set_option maxRecDepth 100000 in
theorem hq_H_undo (d : Nat)  (μ : hs_M)  : hc_H_undo (d + 1)  μ =
  hs_bI (hc_Past_stepBack d 0 μ) (fun r1 μ1 => (if r1 = 0 then some (some (vI (-1 : Int32)), μ1) else some (some (vI (μ1.1 3 0 4)), μ1))) := by exact (hs_ev_go hp_H_undo [] 15 0 _ [] μ).trans rfl
noncomputable def he_H_served_29 (d : Nat)  (μ : hs_M) : Option (Option hs_V × hs_M) := hs_ev d 127 29 [none, none] [] μ
theorem hp_H_served : hs_prog 127 = (hs_k127, 2, 1) := rfl
set_option maxRecDepth 100000 in
theorem hq_H_served (d : Nat) (x1 : Int32) (μ : hs_M)  : hc_H_served (d + 1) x1 μ =
  (if x1 < 0 then he_H_served_29 d μ else (if x1 < (μ.1 6 0 0) then (if x1 < ((μ.1 6 0 0) - (60 : Int32)) then he_H_served_29 d μ else (if hs_in (x1 - x1 / (60 : Int32) * (60 : Int32)) 60 then some (some (vI (μ.1 29 0 ((x1 - x1 / (60 : Int32) * (60 : Int32)).toNatClampNeg))), μ) else none)) else he_H_served_29 d μ)) := by exact (hs_ev_go hp_H_served [29] 27 0 _ [] μ).trans rfl
set_option maxRecDepth 100000 in
theorem hq_H_served_29 (d : Nat)  (μ : hs_M)  : he_H_served_29 d  μ =
  some (some (vI (-2 : Int32)), μ) := by exact (hs_ev_go hp_H_served [29] 27 29 _ [] μ).trans rfl
noncomputable def he_H_later_18 (d : Nat)  (μ : hs_M) : Option (Option hs_V × hs_M) := hs_ev d 128 18 [none, none, none] [] μ
theorem hp_H_later : hs_prog 128 = (hs_k128, 3, 1) := rfl
set_option maxRecDepth 100000 in
theorem hq_H_later (d : Nat) (x1 : Int32) (x2 : Int32) (μ : hs_M)  : hc_H_later (d + 1) x1 x2 μ =
  hs_bI (hc_H_isThere d x1 μ) (fun r1 μ1 => (if r1 = 0 then he_H_later_18 d μ1 else (if x2 < 0 then he_H_later_18 d μ1 else (if (99 : Int32) < x2 then he_H_later_18 d μ1 else hs_bI (hc_Town_weightLater d 0 x1 x2 μ1) (fun r2 μ2 => some (some (vI r2), μ2)))))) := by exact (hs_ev_go hp_H_later [18] 22 0 _ [] μ).trans rfl
set_option maxRecDepth 100000 in
theorem hq_H_later_18 (d : Nat)  (μ : hs_M)  : he_H_later_18 d  μ =
  some (some (vI (-1 : Int32)), μ) := by exact (hs_ev_go hp_H_later [18] 22 18 _ [] μ).trans rfl
noncomputable def he_H_then_10 (d : Nat)  (μ : hs_M) : Option (Option hs_V × hs_M) := hs_ev d 129 10 [none, none] [] μ
theorem hp_H_then : hs_prog 129 = (hs_k129, 2, 1) := rfl
set_option maxRecDepth 100000 in
theorem hq_H_then (d : Nat) (x1 : Int32) (μ : hs_M)  : hc_H_then (d + 1) x1 μ =
  (if x1 < 0 then he_H_then_10 d μ else (if (99 : Int32) < x1 then he_H_then_10 d μ else hs_bI (hc_Future_serverThen d x1 μ) (fun r1 μ1 => some (some (vI r1), μ1)))) := by exact (hs_ev_go hp_H_then [10] 15 0 _ [] μ).trans rfl
set_option maxRecDepth 100000 in
theorem hq_H_then_10 (d : Nat)  (μ : hs_M)  : he_H_then_10 d  μ =
  some (some (vI (-2 : Int32)), μ) := by exact (hs_ev_go hp_H_then [10] 15 10 _ [] μ).trans rfl
theorem hp_H_soonest : hs_prog 130 = (hs_k130, 2, 1) := rfl
set_option maxRecDepth 100000 in
theorem hq_H_soonest (d : Nat) (x1 : Int32) (μ : hs_M)  : hc_H_soonest (d + 1) x1 μ =
  hs_bI (hc_Town_has d x1 μ) (fun r1 μ1 => (if r1 = 0 then some (some (vI (-1 : Int32)), μ1) else (if (μ1.1 6 0 1) = x1 then some (some (vI (-3 : Int32)), μ1) else hs_bI (hc_Future_weeksTill d x1 μ1) (fun r2 μ2 => some (some (vI r2), μ2))))) := by exact (hs_ev_go hp_H_soonest [] 22 0 _ [] μ).trans rfl
noncomputable def he_H_ever_10 (d : Nat)  (μ : hs_M) : Option (Option hs_V × hs_M) := hs_ev d 131 10 [none, none] [] μ
theorem hp_H_ever : hs_prog 131 = (hs_k131, 2, 1) := rfl
set_option maxRecDepth 100000 in
theorem hq_H_ever (d : Nat) (x1 : Int32) (μ : hs_M)  : hc_H_ever (d + 1) x1 μ =
  (if x1 < 0 then he_H_ever_10 d μ else (if (12 : Int32) < x1 then he_H_ever_10 d μ else hs_bI (hc_Future_reachable d x1 μ) (fun r1 μ1 => some (some (vI r1), μ1)))) := by exact (hs_ev_go hp_H_ever [10] 15 0 _ [] μ).trans rfl
set_option maxRecDepth 100000 in
theorem hq_H_ever_10 (d : Nat)  (μ : hs_M)  : he_H_ever_10 d  μ =
  some (some (vI (-1 : Int32)), μ) := by exact (hs_ev_go hp_H_ever [10] 15 10 _ [] μ).trans rfl
noncomputable def he_H_most_18 (d : Nat)  (μ : hs_M) : Option (Option hs_V × hs_M) := hs_ev d 132 18 [none, none, none] [] μ
theorem hp_H_most : hs_prog 132 = (hs_k132, 3, 1) := rfl
set_option maxRecDepth 100000 in
theorem hq_H_most (d : Nat) (x1 : Int32) (x2 : Int32) (μ : hs_M)  : hc_H_most (d + 1) x1 x2 μ =
  hs_bI (hc_H_isThere d x1 μ) (fun r1 μ1 => (if r1 = 0 then he_H_most_18 d μ1 else (if x2 < 0 then he_H_most_18 d μ1 else (if (10 : Int32) < x2 then he_H_most_18 d μ1 else hs_bI (hc_Future_bestStanding d x1 x2 μ1) (fun r2 μ2 => some (some (vI r2), μ2)))))) := by exact (hs_ev_go hp_H_most [18] 20 0 _ [] μ).trans rfl
set_option maxRecDepth 100000 in
theorem hq_H_most_18 (d : Nat)  (μ : hs_M)  : he_H_most_18 d  μ =
  some (some (vI (-1 : Int32)), μ) := by exact (hs_ev_go hp_H_most [18] 20 18 _ [] μ).trans rfl
noncomputable def he_H_rests_20 (d : Nat)  (μ : hs_M) : Option (Option hs_V × hs_M) := hs_ev d 133 20 [none, none, none] [] μ
theorem hp_H_rests : hs_prog 133 = (hs_k133, 3, 1) := rfl
set_option maxRecDepth 100000 in
theorem hq_H_rests (d : Nat) (x1 : Int32) (x2 : Int32) (μ : hs_M)  : hc_H_rests (d + 1) x1 x2 μ =
  (if x1 < (1 : Int32) then he_H_rests_20 d μ else (if (4 : Int32) < x1 then he_H_rests_20 d μ else (if x2 < 0 then he_H_rests_20 d μ else (if (20 : Int32) < x2 then he_H_rests_20 d μ else hs_bI (hc_Future_rounds d x1 x2 μ) (fun r1 μ1 => some (some (vI r1), μ1)))))) := by exact (hs_ev_go hp_H_rests [20] 22 0 _ [] μ).trans rfl
set_option maxRecDepth 100000 in
theorem hq_H_rests_20 (d : Nat)  (μ : hs_M)  : he_H_rests_20 d  μ =
  some (some (vI (-1 : Int32)), μ) := by exact (hs_ev_go hp_H_rests [20] 22 20 _ [] μ).trans rfl
noncomputable def he_H_party_10 (d : Nat)  (μ : hs_M) : Option (Option hs_V × hs_M) := hs_ev d 134 10 [none, none] [] μ
theorem hp_H_party : hs_prog 134 = (hs_k134, 2, 1) := rfl
set_option maxRecDepth 100000 in
theorem hq_H_party (d : Nat) (x1 : Int32) (μ : hs_M)  : hc_H_party (d + 1) x1 μ =
  (if x1 < 0 then he_H_party_10 d μ else (if (99 : Int32) < x1 then he_H_party_10 d μ else hs_bI (hc_Future_strongestParty d x1 μ) (fun r1 μ1 => some (some (vI r1), μ1)))) := by exact (hs_ev_go hp_H_party [10] 15 0 _ [] μ).trans rfl
set_option maxRecDepth 100000 in
theorem hq_H_party_10 (d : Nat)  (μ : hs_M)  : he_H_party_10 d  μ =
  some (some (vI (-2 : Int32)), μ) := by exact (hs_ev_go hp_H_party [10] 15 10 _ [] μ).trans rfl
noncomputable def he_H_byTurns_19 (d : Nat)  (μ : hs_M) : Option (Option hs_V × hs_M) := hs_ev d 135 19 [none, none, none] [] μ
theorem hp_H_byTurns : hs_prog 135 = (hs_k135, 3, 1) := rfl
set_option maxRecDepth 100000 in
theorem hq_H_byTurns (d : Nat) (x1 : Int32) (x2 : Int32) (μ : hs_M)  : hc_H_byTurns (d + 1) x1 x2 μ =
  (if x1 < 0 then he_H_byTurns_19 d μ else (if x1 < (4 : Int32) then (if x2 < 0 then he_H_byTurns_19 d μ else (if (99 : Int32) < x2 then he_H_byTurns_19 d μ else hs_bI (hc_Future_takingTurns d x1 x2 μ) (fun r1 μ1 => some (some (vI r1), μ1)))) else he_H_byTurns_19 d μ)) := by exact (hs_ev_go hp_H_byTurns [19] 21 0 _ [] μ).trans rfl
set_option maxRecDepth 100000 in
theorem hq_H_byTurns_19 (d : Nat)  (μ : hs_M)  : he_H_byTurns_19 d  μ =
  some (some (vI (-1 : Int32)), μ) := by exact (hs_ev_go hp_H_byTurns [19] 21 19 _ [] μ).trans rfl
noncomputable def he_H_fool_21 (d : Nat)  (μ : hs_M) : Option (Option hs_V × hs_M) := hs_ev d 136 21 [none, none, none] [] μ
theorem hp_H_fool : hs_prog 136 = (hs_k136, 3, 1) := rfl
set_option maxRecDepth 100000 in
theorem hq_H_fool (d : Nat) (x1 : Int32) (x2 : Int32) (μ : hs_M)  : hc_H_fool (d + 1) x1 x2 μ =
  hs_bI (hc_Town_has d x1 μ) (fun r1 μ1 => (if r1 = 0 then he_H_fool_21 d μ1 else (if x2 < 0 then he_H_fool_21 d μ1 else (if (99 : Int32) < x2 then he_H_fool_21 d μ1 else hs_bI (hc_Future_foolsWorth d x1 x2 μ1) (fun r2 μ2 => some (some (vI r2), μ2)))))) := by exact (hs_ev_go hp_H_fool [21] 23 0 _ [] μ).trans rfl
set_option maxRecDepth 100000 in
theorem hq_H_fool_21 (d : Nat)  (μ : hs_M)  : he_H_fool_21 d  μ =
  some (none, μ) := by exact (hs_ev_go hp_H_fool [21] 23 21 _ [] μ).trans rfl
noncomputable def he_H_hold_10 (d : Nat)  (μ : hs_M) : Option (Option hs_V × hs_M) := hs_ev d 137 10 [none, none] [] μ
theorem hp_H_hold : hs_prog 137 = (hs_k137, 2, 1) := rfl
set_option maxRecDepth 100000 in
theorem hq_H_hold (d : Nat) (x1 : Int32) (μ : hs_M)  : hc_H_hold (d + 1) x1 μ =
  (if x1 < 0 then he_H_hold_10 d μ else (if (60 : Int32) < x1 then he_H_hold_10 d μ else (if (μ.1 6 0 1) = (-1 : Int32) then some (some (vI (-3 : Int32)), μ) else hs_bI (hc_Trials_cakesToStay d (μ.1 6 0 1) x1 μ) (fun r1 μ1 => some (some (vI r1), μ1))))) := by exact (hs_ev_go hp_H_hold [10] 25 0 _ [] μ).trans rfl
set_option maxRecDepth 100000 in
theorem hq_H_hold_10 (d : Nat)  (μ : hs_M)  : he_H_hold_10 d  μ =
  some (some (vI (-1 : Int32)), μ) := by exact (hs_ev_go hp_H_hold [10] 25 10 _ [] μ).trans rfl
noncomputable def he_H_bribe_19 (d : Nat)  (μ : hs_M) : Option (Option hs_V × hs_M) := hs_ev d 138 19 [none, none, none] [] μ
theorem hp_H_bribe : hs_prog 138 = (hs_k138, 3, 1) := rfl
set_option maxRecDepth 100000 in
theorem hq_H_bribe (d : Nat) (x1 : Int32) (x2 : Int32) (μ : hs_M)  : hc_H_bribe (d + 1) x1 x2 μ =
  hs_bI (hc_H_isThere d x1 μ) (fun r1 μ1 => (if r1 = 0 then he_H_bribe_19 d μ1 else (if x2 < (1 : Int32) then he_H_bribe_19 d μ1 else (if (60 : Int32) < x2 then he_H_bribe_19 d μ1 else hs_bI (hc_Trials_cakesToServe d x1 x2 μ1) (fun r2 μ2 => some (some (vI r2), μ2)))))) := by exact (hs_ev_go hp_H_bribe [19] 21 0 _ [] μ).trans rfl
set_option maxRecDepth 100000 in
theorem hq_H_bribe_19 (d : Nat)  (μ : hs_M)  : he_H_bribe_19 d  μ =
  some (some (vI (-1 : Int32)), μ) := by exact (hs_ev_go hp_H_bribe [19] 21 19 _ [] μ).trans rfl
noncomputable def he_H_starve_18 (d : Nat)  (μ : hs_M) : Option (Option hs_V × hs_M) := hs_ev d 139 18 [none, none, none] [] μ
theorem hp_H_starve : hs_prog 139 = (hs_k139, 3, 1) := rfl
set_option maxRecDepth 100000 in
theorem hq_H_starve (d : Nat) (x1 : Int32) (x2 : Int32) (μ : hs_M)  : hc_H_starve (d + 1) x1 x2 μ =
  hs_bI (hc_H_isThere d x1 μ) (fun r1 μ1 => (if r1 = 0 then he_H_starve_18 d μ1 else (if x2 < 0 then he_H_starve_18 d μ1 else (if (60 : Int32) < x2 then he_H_starve_18 d μ1 else hs_bI (hc_Trials_ouncesToMiss d x1 x2 μ1) (fun r2 μ2 => some (some (vI r2), μ2)))))) := by exact (hs_ev_go hp_H_starve [18] 20 0 _ [] μ).trans rfl
set_option maxRecDepth 100000 in
theorem hq_H_starve_18 (d : Nat)  (μ : hs_M)  : he_H_starve_18 d  μ =
  some (some (vI (-1 : Int32)), μ) := by exact (hs_ev_go hp_H_starve [18] 20 18 _ [] μ).trans rfl
theorem hp_H_cheapest : hs_prog 140 = (hs_k140, 1, 1) := rfl
set_option maxRecDepth 100000 in
theorem hq_H_cheapest (d : Nat)  (μ : hs_M)  : hc_H_cheapest (d + 1)  μ =
  hs_bI (hc_Trials_leastFed d μ) (fun r1 μ1 => some (some (vI r1), μ1)) := by exact (hs_ev_go hp_H_cheapest [] 7 0 _ [] μ).trans rfl
noncomputable def he_H_weighed_22 (d : Nat)  (μ : hs_M) : Option (Option hs_V × hs_M) := hs_ev d 141 22 [none, none, none] [] μ
theorem hp_H_weighed : hs_prog 141 = (hs_k141, 3, 1) := rfl
set_option maxRecDepth 100000 in
theorem hq_H_weighed (d : Nat) (x1 : Int32) (x2 : Int32) (μ : hs_M)  : hc_H_weighed (d + 1) x1 x2 μ =
  hs_bI (hc_Town_has d x1 μ) (fun r1 μ1 => (if r1 = 0 then he_H_weighed_22 d μ1 else (if x2 < 0 then he_H_weighed_22 d μ1 else (if (1010 : Int32) < x2 then he_H_weighed_22 d μ1 else hs_bI (hc_Pairs_append d 0 x1 x2 μ1) (fun r2 μ2 => some (some (vI r2), μ2)))))) := by exact (hs_ev_go hp_H_weighed [22] 21 0 _ [] μ).trans rfl
set_option maxRecDepth 100000 in
theorem hq_H_weighed_22 (d : Nat)  (μ : hs_M)  : he_H_weighed_22 d  μ =
  some (some (vI (-1 : Int32)), μ) := by exact (hs_ev_go hp_H_weighed [22] 21 22 _ [] μ).trans rfl
theorem hp_H_forget : hs_prog 142 = (hs_k142, 1, 1) := rfl
set_option maxRecDepth 100000 in
theorem hq_H_forget (d : Nat)  (μ : hs_M)  : hc_H_forget (d + 1)  μ =
  (if (μ.1 2 0 2) = 0 then some (some (vI (-1 : Int32)), μ) else some (some (vI ((μ.1 2 0 2) - (1 : Int32))), (hs_wI μ 2 0 2 ((μ.1 2 0 2) - (1 : Int32))))) := by exact (hs_ev_go hp_H_forget [] 20 0 _ [] μ).trans rfl
theorem hp_H_grains : hs_prog 143 = (hs_k143, 1, 1) := rfl
set_option maxRecDepth 100000 in
theorem hq_H_grains (d : Nat)  (μ : hs_M)  : hc_H_grains (d + 1)  μ =
  hs_bI (hc_Scale_possibleGrains d 0 (μ.1 8 0 9) μ) (fun r1 μ1 => some (some (vI r1), μ1)) := by exact (hs_ev_go hp_H_grains [] 12 0 _ [] μ).trans rfl
theorem hp_H_span : hs_prog 144 = (hs_k144, 3, 1) := rfl
set_option maxRecDepth 100000 in
theorem hq_H_span (d : Nat) (x1 : Int32) (μ : hs_M)  : hc_H_span (d + 1) x1 μ =
  hs_bI (hc_Town_has d x1 μ) (fun r1 μ1 => (if r1 = 0 then some (some (vI (-1 : Int32)), μ1) else hs_bI (hc_Scale_narrow d 0 x1 (μ1.1 5 0 0) μ1) (fun r2 μ2 => hs_bV (hc_Row_range d r2 (μ2.1 5 0 2) (μ2.1 5 0 3) μ2) (fun μ3 => some (some (vI r2), μ3))))) := by exact (hs_ev_go hp_H_span [] 32 0 _ [] μ).trans rfl
noncomputable def he_H_offs_10 (d : Nat) (x1 : Int32) (x2 : Int32) (x3 : Int32) (x4 : Int32) (μ : hs_M) : Option (Option hs_V × hs_M) := hs_ev d 145 10 [some (vR 11 0), some (vI x1), some (vI x2), some (vI x3), some (vI x4)] [] μ
noncomputable def he_H_offs_57 (d : Nat) (x1 : Int32) (x2 : Int32) (x3 : Int32) (x4 : Int32) (μ : hs_M) : Option (Option hs_V × hs_M) := hs_ev d 145 57 [some (vR 11 0), some (vI x1), some (vI x2), some (vI x3), some (vI x4)] [] μ
theorem hp_H_offs : hs_prog 145 = (hs_k145, 5, 1) := rfl
set_option maxRecDepth 100000 in
theorem hq_H_offs (d : Nat)  (μ : hs_M)  : hc_H_offs (d + 1)  μ =
  he_H_offs_10 d (0 : Int32) (0 : Int32) (0 : Int32) (-9 : Int32) μ := by exact (hs_ev_go hp_H_offs [10, 57] 43 0 _ [] μ).trans rfl
set_option maxRecDepth 100000 in
theorem hq_H_offs_10 (d : Nat) (x1 : Int32) (x2 : Int32) (x3 : Int32) (x4 : Int32) (μ : hs_M)  : he_H_offs_10 d x1 x2 x3 x4 μ =
  (if (9 : Int32) < x4 then hs_bV (hc_Row_range d x1 x2 x3 μ) (fun μ1 => some (some (vI x1), μ1)) else hs_bI (hc_Scale_misfits d 0 x4 μ) (fun r2 μ2 => (if r2 = 0 then (if x1 = 0 then he_H_offs_57 d (x1 + (1 : Int32)) x4 x4 x4 μ2 else he_H_offs_57 d (x1 + (1 : Int32)) x2 x4 x4 μ2) else he_H_offs_57 d x1 x2 x3 x4 μ2))) := by exact (hs_ev_go hp_H_offs [10, 57] 43 10 _ [] μ).trans rfl
set_option maxRecDepth 100000 in
theorem hq_H_offs_57 (d : Nat) (x1 : Int32) (x2 : Int32) (x3 : Int32) (x4 : Int32) (μ : hs_M)  : he_H_offs_57 d x1 x2 x3 x4 μ =
  he_H_offs_10 d x1 x2 x3 (x4 + (1 : Int32)) μ := by exact (hs_ev_go hp_H_offs [10, 57] 43 57 _ [] μ).trans rfl
noncomputable def he_H_cheats_11 (d : Nat) (x1 : Int32) (x2 : Int32) (x3 : Int32) (x4 : Int32) (μ : hs_M) : Option (Option hs_V × hs_M) := hs_ev d 146 11 [some (vR 11 0), some (vI x1), some (vI x2), some (vI x3), some (vI x4), none] [] μ
noncomputable def he_H_cheats_61 (d : Nat) (x1 : Int32) (x2 : Int32) (x3 : Int32) (x4 : Int32) (μ : hs_M) : Option (Option hs_V × hs_M) := hs_ev d 146 61 [some (vR 11 0), some (vI x1), some (vI x2), some (vI x3), some (vI x4), none] [] μ
theorem hp_H_cheats : hs_prog 146 = (hs_k146, 6, 1) := rfl
set_option maxRecDepth 100000 in
theorem hq_H_cheats (d : Nat)  (μ : hs_M)  : hc_H_cheats (d + 1)  μ =
  he_H_cheats_11 d (9 : Int32) (0 : Int32) (0 : Int32) (-9 : Int32) μ := by exact (hs_ev_go hp_H_cheats [11, 61] 49 0 _ [] μ).trans rfl
set_option maxRecDepth 100000 in
theorem hq_H_cheats_11 (d : Nat) (x1 : Int32) (x2 : Int32) (x3 : Int32) (x4 : Int32) (μ : hs_M)  : he_H_cheats_11 d x1 x2 x3 x4 μ =
  (if (9 : Int32) < x4 then hs_bV (hc_Row_begin d (x2.toInt64) μ) (fun μ1 => hs_bV (hc_Row_add d (x3.toInt64) μ1) (fun μ2 => some (some (vI x1), μ2))) else hs_bI (hc_Scale_misfits d 0 x4 μ) (fun r3 μ3 => hs_bI (hc_Int_bitCount d r3 μ3) (fun r4 μ4 => (if r4 < x1 then hs_bI (hc_Int_bitCount d r3 μ4) (fun r5 μ5 => he_H_cheats_61 d r5 r3 x4 x4 μ5) else he_H_cheats_61 d x1 x2 x3 x4 μ4)))) := by exact (hs_ev_go hp_H_cheats [11, 61] 49 11 _ [] μ).trans rfl
set_option maxRecDepth 100000 in
theorem hq_H_cheats_61 (d : Nat) (x1 : Int32) (x2 : Int32) (x3 : Int32) (x4 : Int32) (μ : hs_M)  : he_H_cheats_61 d x1 x2 x3 x4 μ =
  he_H_cheats_11 d x1 x2 x3 (x4 + (1 : Int32)) μ := by exact (hs_ev_go hp_H_cheats [11, 61] 49 61 _ [] μ).trans rfl
noncomputable def he_H_told_22 (d : Nat)  (μ : hs_M) : Option (Option hs_V × hs_M) := hs_ev d 147 22 [none, none, none] [] μ
theorem hp_H_told : hs_prog 147 = (hs_k147, 3, 1) := rfl
set_option maxRecDepth 100000 in
theorem hq_H_told (d : Nat) (x1 : Int32) (x2 : Int32) (μ : hs_M)  : hc_H_told (d + 1) x1 x2 μ =
  hs_bI (hc_Town_has d x1 μ) (fun r1 μ1 => (if r1 = 0 then he_H_told_22 d μ1 else (if x2 < (1 : Int32) then he_H_told_22 d μ1 else (if (60 : Int32) < x2 then he_H_told_22 d μ1 else hs_bI (hc_Pairs_append d 1 x1 x2 μ1) (fun r2 μ2 => some (some (vI r2), μ2)))))) := by exact (hs_ev_go hp_H_told [22] 22 0 _ [] μ).trans rfl
set_option maxRecDepth 100000 in
theorem hq_H_told_22 (d : Nat)  (μ : hs_M)  : he_H_told_22 d  μ =
  some (some (vI (-1 : Int32)), μ) := by exact (hs_ev_go hp_H_told [22] 22 22 _ [] μ).trans rfl
