/-! ===== the equations of the methods, 3 ===== -/
noncomputable def he_Town_weightLater_19 (d : Nat) (j1 : Nat) (x2 : Int32) (x3 : Int32) (x4 : Int32) (x5 : Int32) (x6 : Int32) (μ : hs_M) : Option (Option hs_V × hs_M) := hs_ev d 75 19 [some (vR 8 0), some (vR 6 j1), some (vI x2), some (vI x3), some (vI x4), some (vI x5), some (vI x6)] [] μ
noncomputable def he_Town_weightLater_61 (d : Nat) (x4 : Int32) (μ : hs_M) : Option (Option hs_V × hs_M) := hs_ev d 75 61 [none, none, none, none, some (vI x4), none, none] [] μ
theorem hp_Town_weightLater : hs_prog 75 = (hs_k75, 7, 1) := rfl
set_option maxRecDepth 100000 in
theorem hq_Town_weightLater (d : Nat) (j1 : Nat) (x2 : Int32) (x3 : Int32) (μ : hs_M)  : hc_Town_weightLater (d + 1) j1 x2 x3 μ =
  (if hs_in x2 8 then (if hs_in x2 8 then he_Town_weightLater_19 d j1 x2 x3 (μ.1 24 j1 (x2.toNatClampNeg)) (μ.1 17 0 (x2.toNatClampNeg)) (0 : Int32) μ else none) else none) := by exact (hs_ev_go hp_Town_weightLater [19, 61] 37 0 _ [] μ).trans rfl
set_option maxRecDepth 100000 in
theorem hq_Town_weightLater_19 (d : Nat) (j1 : Nat) (x2 : Int32) (x3 : Int32) (x4 : Int32) (x5 : Int32) (x6 : Int32) (μ : hs_M)  : he_Town_weightLater_19 d j1 x2 x3 x4 x5 x6 μ =
  (if x6 < x3 then (if 0 < x5 then hs_bI (hc_Math_floorMod d ((μ.1 6 j1 0) + x6) x5 μ) (fun r1 μ1 => hs_bI (hc_Town_changeAt d x2 r1 μ1) (fun r2 μ2 => hs_bI (hc_H_inBounds d (x4 + r2) μ2) (fun r3 μ3 => he_Town_weightLater_19 d j1 x2 x3 r3 x5 (x6 + (1 : Int32)) μ3))) else he_Town_weightLater_61 d x4 μ) else he_Town_weightLater_61 d x4 μ) := by exact (hs_ev_go hp_Town_weightLater [19, 61] 37 19 _ [] μ).trans rfl
set_option maxRecDepth 100000 in
theorem hq_Town_weightLater_61 (d : Nat) (x4 : Int32) (μ : hs_M)  : he_Town_weightLater_61 d x4 μ =
  some (some (vI x4), μ) := by exact (hs_ev_go hp_Town_weightLater [19, 61] 37 61 _ [] μ).trans rfl
theorem hp_Town_copyPerson : hs_prog 76 = (hs_k76, 3, 0) := rfl
set_option maxRecDepth 100000 in
theorem hq_Town_copyPerson (d : Nat) (x1 : Int32) (x2 : Int32) (μ : hs_M)  : hc_Town_copyPerson (d + 1) x1 x2 μ =
  (if hs_in x1 8 then (if hs_in x2 8 then (if hs_in x1 8 then (if hs_in x2 8 then (if hs_in x1 8 then (if hs_in x2 8 then (if hs_cok (x1 * (6 : Int32)) (x2 * (6 : Int32)) (6 : Int32) 48 48 then some (none, (hs_cp (hs_wI (hs_wI (hs_wI μ 15 0 (x2.toNatClampNeg) (μ.1 15 0 (x1.toNatClampNeg))) 16 0 (x2.toNatClampNeg) (μ.1 16 0 (x1.toNatClampNeg))) 17 0 (x2.toNatClampNeg) (μ.1 17 0 (x1.toNatClampNeg))) 18 0 ((x1 * (6 : Int32)).toNatClampNeg) 18 0 ((x2 * (6 : Int32)).toNatClampNeg) 6)) else none) else none) else none) else none) else none) else none) else none) := by exact (hs_ev_go hp_Town_copyPerson [] 40 0 _ [] μ).trans rfl
noncomputable def he_Town_readLines_21 (d : Nat) (x2 : Int32) (μ : hs_M) : Option (Option hs_V × hs_M) := hs_ev d 77 21 [some (vR 8 0), some (vR 7 0), some (vI x2)] [] μ
noncomputable def he_Town_readLines_42 (d : Nat)  (μ : hs_M) : Option (Option hs_V × hs_M) := hs_ev d 77 42 [some (vR 8 0), none, none] [] μ
noncomputable def he_Town_readLines_89 (d : Nat)  (μ : hs_M) : Option (Option hs_V × hs_M) := hs_ev d 77 89 [some (vR 8 0), some (vR 7 0), none] [] μ
theorem hp_Town_readLines : hs_prog 77 = (hs_k77, 3, 1) := rfl
set_option maxRecDepth 100000 in
theorem hq_Town_readLines (d : Nat)  (μ : hs_M)  : hc_Town_readLines (d + 1)  μ =
  hs_bV (hc_Text_open d (76 : Int32) μ) (fun μ1 => he_Town_readLines_21 d (μ1.1 8 0 9) (hs_wI (hs_wI μ1 8 0 7 (0 : Int32)) 8 0 8 (0 : Int32))) := by exact (hs_ev_go hp_Town_readLines [21, 42, 89] 60 0 _ [] μ).trans rfl
set_option maxRecDepth 100000 in
theorem hq_Town_readLines_21 (d : Nat) (x2 : Int32) (μ : hs_M)  : he_Town_readLines_21 d x2 μ =
  (if (8 : Int32) < x2 then he_Town_readLines_89 d μ else (if x2 = (8 : Int32) then he_Town_readLines_42 d μ else hs_bI (hc_Town_readLine d x2 μ) (fun r1 μ1 => (if r1 = 0 then he_Town_readLines_42 d μ1 else hs_bI (hc_Text_signAt d (μ1.1 8 0 7) (hs_wI μ1 8 0 8 ((μ1.1 8 0 8) + (1 : Int32)))) (fun r2 μ2 => (if r2 = (59 : Int32) then he_Town_readLines_21 d (x2 + (1 : Int32)) (hs_wI μ2 8 0 7 ((μ2.1 8 0 7) + (1 : Int32))) else he_Town_readLines_89 d μ2)))))) := by exact (hs_ev_go hp_Town_readLines [21, 42, 89] 60 21 _ [] μ).trans rfl
set_option maxRecDepth 100000 in
theorem hq_Town_readLines_42 (d : Nat)  (μ : hs_M)  : he_Town_readLines_42 d  μ =
  some (some (vI (μ.1 8 0 7)), μ) := by exact (hs_ev_go hp_Town_readLines [21, 42, 89] 60 42 _ [] μ).trans rfl
set_option maxRecDepth 100000 in
theorem hq_Town_readLines_89 (d : Nat)  (μ : hs_M)  : he_Town_readLines_89 d  μ =
  (if (μ.1 8 0 7) < (μ.1 7 0 1) then some (some (vI (μ.1 8 0 7)), μ) else some (some (vI (-1 : Int32)), μ)) := by exact (hs_ev_go hp_Town_readLines [21, 42, 89] 60 89 _ [] μ).trans rfl
noncomputable def he_Town_readHabit_30 (d : Nat)  (μ : hs_M) : Option (Option hs_V × hs_M) := hs_ev d 78 30 [some (vR 8 0), none, none] [] μ
theorem hp_Town_readHabit : hs_prog 78 = (hs_k78, 3, 1) := rfl
set_option maxRecDepth 100000 in
theorem hq_Town_readHabit (d : Nat) (x2 : Int32) (μ : hs_M)  : hc_Town_readHabit (d + 1) x2 μ =
  hs_bV (hc_Text_open d (12 : Int32) μ) (fun μ1 => hs_bI (hc_Town_readChanges d (hs_wI μ1 8 0 7 (0 : Int32))) (fun r2 μ2 => (if r2 = 0 then he_Town_readHabit_30 d μ2 else (if (μ2.1 8 0 7) < (μ2.1 7 0 1) then he_Town_readHabit_30 d μ2 else hs_bV (hc_Town_takeDraft d x2 μ2) (fun μ3 => some (some (vI (-1 : Int32)), μ3)))))) := by exact (hs_ev_go hp_Town_readHabit [30] 26 0 _ [] μ).trans rfl
set_option maxRecDepth 100000 in
theorem hq_Town_readHabit_30 (d : Nat)  (μ : hs_M)  : he_Town_readHabit_30 d  μ =
  some (some (vI (μ.1 8 0 7)), μ) := by exact (hs_ev_go hp_Town_readHabit [30] 26 30 _ [] μ).trans rfl
noncomputable def he_Town_readLine_26 (d : Nat)  (μ : hs_M) : Option (Option hs_V × hs_M) := hs_ev d 79 26 [none, none, none] [] μ
theorem hp_Town_readLine : hs_prog 79 = (hs_k79, 3, 3) := rfl
set_option maxRecDepth 100000 in
theorem hq_Town_readLine (d : Nat) (x2 : Int32) (μ : hs_M)  : hc_Town_readLine (d + 1) x2 μ =
  hs_bI (hc_Town_readWeight d x2 μ) (fun r1 μ1 => (if r1 = 0 then he_Town_readLine_26 d μ1 else hs_bI (hc_Town_readParty d x2 μ1) (fun r2 μ2 => (if r2 = 0 then he_Town_readLine_26 d μ2 else hs_bI (hc_Town_readChanges d μ2) (fun r3 μ3 => (if r3 = 0 then he_Town_readLine_26 d μ3 else hs_bV (hc_Town_takeDraft d x2 μ3) (fun μ4 => (if hs_in x2 8 then hs_rz (1 : Int32) (hs_wI μ4 16 0 (x2.toNatClampNeg) (0 : Int32)) else none)))))))) := by exact (hs_ev_go hp_Town_readLine [26] 29 0 _ [] μ).trans rfl
set_option maxRecDepth 100000 in
theorem hq_Town_readLine_26 (d : Nat)  (μ : hs_M)  : he_Town_readLine_26 d  μ =
  hs_rz (0 : Int32) μ := by exact (hs_ev_go hp_Town_readLine [26] 29 26 _ [] μ).trans rfl
noncomputable def he_Town_readWeight_5 (d : Nat) (x2 : Int32) (x3 : Int32) (x4 : Int32) (μ : hs_M) : Option (Option hs_V × hs_M) := hs_ev d 80 5 [some (vR 8 0), some (vR 7 0), some (vI x2), some (vI x3), some (vI x4)] [] μ
noncomputable def he_Town_readWeight_53 (d : Nat) (x2 : Int32) (x3 : Int32) (x4 : Int32) (μ : hs_M) : Option (Option hs_V × hs_M) := hs_ev d 80 53 [some (vR 8 0), none, some (vI x2), some (vI x3), some (vI x4)] [] μ
noncomputable def he_Town_readWeight_72 (d : Nat) (x2 : Int32) (x3 : Int32) (μ : hs_M) : Option (Option hs_V × hs_M) := hs_ev d 80 72 [some (vR 8 0), none, some (vI x2), some (vI x3), none] [] μ
theorem hp_Town_readWeight : hs_prog 80 = (hs_k80, 5, 3) := rfl
set_option maxRecDepth 100000 in
theorem hq_Town_readWeight (d : Nat) (x2 : Int32) (μ : hs_M)  : hc_Town_readWeight (d + 1) x2 μ =
  he_Town_readWeight_5 d x2 (0 : Int32) (0 : Int32) μ := by exact (hs_ev_go hp_Town_readWeight [5, 53, 72] 54 0 _ [] μ).trans rfl
set_option maxRecDepth 100000 in
theorem hq_Town_readWeight_5 (d : Nat) (x2 : Int32) (x3 : Int32) (x4 : Int32) (μ : hs_M)  : he_Town_readWeight_5 d x2 x3 x4 μ =
  (if x4 < (3 : Int32) then hs_bI (hc_Text_digitAt d (μ.1 8 0 7) μ) (fun r1 μ1 => (if r1 = (-1 : Int32) then he_Town_readWeight_53 d x2 x3 x4 μ1 else hs_bI (hc_Text_digitAt d (μ1.1 8 0 7) μ1) (fun r2 μ2 => he_Town_readWeight_5 d x2 ((x3 * (10 : Int32)) + r2) (x4 + (1 : Int32)) (hs_wI μ2 8 0 7 ((μ2.1 8 0 7) + (1 : Int32)))))) else he_Town_readWeight_53 d x2 x3 x4 μ) := by exact (hs_ev_go hp_Town_readWeight [5, 53, 72] 54 5 _ [] μ).trans rfl
set_option maxRecDepth 100000 in
theorem hq_Town_readWeight_53 (d : Nat) (x2 : Int32) (x3 : Int32) (x4 : Int32) (μ : hs_M)  : he_Town_readWeight_53 d x2 x3 x4 μ =
  (if 0 < x4 then (if x3 = 0 then he_Town_readWeight_72 d x2 x3 (hs_wI μ 8 0 7 ((μ.1 8 0 7) - (1 : Int32))) else he_Town_readWeight_72 d x2 x3 μ) else he_Town_readWeight_72 d x2 x3 μ) := by exact (hs_ev_go hp_Town_readWeight [5, 53, 72] 54 53 _ [] μ).trans rfl
set_option maxRecDepth 100000 in
theorem hq_Town_readWeight_72 (d : Nat) (x2 : Int32) (x3 : Int32) (μ : hs_M)  : he_Town_readWeight_72 d x2 x3 μ =
  (if hs_in x2 8 then (if 0 < x3 then hs_rz (1 : Int32) (hs_wI μ 19 0 (x2.toNatClampNeg) x3) else hs_rz (0 : Int32) (hs_wI μ 19 0 (x2.toNatClampNeg) x3)) else none) := by exact (hs_ev_go hp_Town_readWeight [5, 53, 72] 54 72 _ [] μ).trans rfl
noncomputable def he_Town_readParty_51 (d : Nat)  (μ : hs_M) : Option (Option hs_V × hs_M) := hs_ev d 81 51 [none, none, none, none] [] μ
theorem hp_Town_readParty : hs_prog 81 = (hs_k81, 4, 3) := rfl
set_option maxRecDepth 100000 in
theorem hq_Town_readParty (d : Nat) (x2 : Int32) (μ : hs_M)  : hc_Town_readParty (d + 1) x2 μ =
  (if hs_in x2 8 then hs_bI (hc_Text_signAt d (μ.1 8 0 7) (hs_wI μ 15 0 (x2.toNatClampNeg) (0 : Int32))) (fun r1 μ1 => (if r1 = (42 : Int32) then hs_bI (hc_Text_digitAt d ((μ1.1 8 0 7) + (1 : Int32)) (hs_wI μ1 8 0 7 ((μ1.1 8 0 7) + (1 : Int32)))) (fun r2 μ2 => (if r2 = (-1 : Int32) then he_Town_readParty_51 d μ2 else (if r2 < (4 : Int32) then (if hs_in x2 8 then hs_rz (1 : Int32) (hs_wI (hs_wI μ2 15 0 (x2.toNatClampNeg) r2) 8 0 7 ((μ2.1 8 0 7) + (1 : Int32))) else none) else he_Town_readParty_51 d μ2))) else hs_rz (1 : Int32) μ1)) else none) := by exact (hs_ev_go hp_Town_readParty [51] 48 0 _ [] μ).trans rfl
set_option maxRecDepth 100000 in
theorem hq_Town_readParty_51 (d : Nat)  (μ : hs_M)  : he_Town_readParty_51 d  μ =
  hs_rz (0 : Int32) μ := by exact (hs_ev_go hp_Town_readParty [51] 48 51 _ [] μ).trans rfl
noncomputable def he_Town_readChanges_7 (d : Nat) (x2 : Int32) (μ : hs_M) : Option (Option hs_V × hs_M) := hs_ev d 82 7 [some (vR 8 0), some (vR 7 0), some (vI x2), none] [] μ
theorem hp_Town_readChanges : hs_prog 82 = (hs_k82, 4, 3) := rfl
set_option maxRecDepth 100000 in
theorem hq_Town_readChanges (d : Nat)  (μ : hs_M)  : hc_Town_readChanges (d + 1)  μ =
  he_Town_readChanges_7 d (0 : Int32) (hs_wI μ 8 0 6 (0 : Int32)) := by exact (hs_ev_go hp_Town_readChanges [7] 75 0 _ [] μ).trans rfl
set_option maxRecDepth 100000 in
theorem hq_Town_readChanges_7 (d : Nat) (x2 : Int32) (μ : hs_M)  : he_Town_readChanges_7 d x2 μ =
  (if x2 < (6 : Int32) then hs_bI (hc_Text_signAt d (μ.1 8 0 7) μ) (fun r1 μ1 => hs_bI (hc_Town_isChangeSign d r1 μ1) (fun r2 μ2 => (if r2 = 0 then hs_rz (1 : Int32) μ2 else hs_bI (hc_Text_digitAt d ((μ2.1 8 0 7) + (1 : Int32)) μ2) (fun r3 μ3 => (if r3 = (-1 : Int32) then hs_rz (0 : Int32) (hs_wI μ3 8 0 7 ((μ3.1 8 0 7) + (1 : Int32))) else hs_bI (hc_Text_signAt d (μ3.1 8 0 7) μ3) (fun r4 μ4 => (if r4 = (43 : Int32) then (if hs_in x2 6 then he_Town_readChanges_7 d (x2 + (1 : Int32)) (hs_wI (hs_wI (hs_wI μ4 20 0 (x2.toNatClampNeg) r3) 8 0 6 ((μ4.1 8 0 6) + (1 : Int32))) 8 0 7 ((μ4.1 8 0 7) + (2 : Int32))) else none) else (if hs_in x2 6 then he_Town_readChanges_7 d (x2 + (1 : Int32)) (hs_wI (hs_wI (hs_wI μ4 20 0 (x2.toNatClampNeg) (-r3)) 8 0 6 ((μ4.1 8 0 6) + (1 : Int32))) 8 0 7 ((μ4.1 8 0 7) + (2 : Int32))) else none)))))))) else hs_bI (hc_Text_signAt d (μ.1 8 0 7) μ) (fun r5 μ5 => hs_bI (hc_Town_isChangeSign d r5 μ5) (fun r6 μ6 => (if r6 = 0 then hs_rz (1 : Int32) μ6 else hs_rz (0 : Int32) μ6)))) := by exact (hs_ev_go hp_Town_readChanges [7] 75 7 _ [] μ).trans rfl
noncomputable def he_Town_isChangeSign_12 (d : Nat)  (μ : hs_M) : Option (Option hs_V × hs_M) := hs_ev d 83 12 [none] [] μ
theorem hp_Town_isChangeSign : hs_prog 83 = (hs_k83, 1, 3) := rfl
set_option maxRecDepth 100000 in
theorem hq_Town_isChangeSign (d : Nat) (x0 : Int32) (μ : hs_M)  : hc_Town_isChangeSign (d + 1) x0 μ =
  (if x0 = (43 : Int32) then he_Town_isChangeSign_12 d μ else (if x0 = (45 : Int32) then he_Town_isChangeSign_12 d μ else hs_rz (0 : Int32) μ)) := by exact (hs_ev_go hp_Town_isChangeSign [12] 13 0 _ [] μ).trans rfl
set_option maxRecDepth 100000 in
theorem hq_Town_isChangeSign_12 (d : Nat)  (μ : hs_M)  : he_Town_isChangeSign_12 d  μ =
  hs_rz (1 : Int32) μ := by exact (hs_ev_go hp_Town_isChangeSign [12] 13 12 _ [] μ).trans rfl
theorem hp_Town_takeDraft : hs_prog 84 = (hs_k84, 2, 0) := rfl
set_option maxRecDepth 100000 in
theorem hq_Town_takeDraft (d : Nat) (x1 : Int32) (μ : hs_M)  : hc_Town_takeDraft (d + 1) x1 μ =
  (if hs_in x1 8 then (if hs_cok (0 : Int32) (x1 * (6 : Int32)) (6 : Int32) 6 48 then some (none, (hs_cp (hs_wI μ 17 0 (x1.toNatClampNeg) (μ.1 8 0 6)) 20 0 0 18 0 ((x1 * (6 : Int32)).toNatClampNeg) 6)) else none) else none) := by exact (hs_ev_go hp_Town_takeDraft [] 20 0 _ [] μ).trans rfl
theorem hp_Trials_feast : hs_prog 85 = (hs_k85, 3, 0) := rfl
set_option maxRecDepth 100000 in
theorem hq_Trials_feast (d : Nat) (x1 : Int32) (x2 : Int32) (μ : hs_M)  : hc_Trials_feast (d + 1) x1 x2 μ =
  hs_bV (hc_State_follow d 36 0 μ) (fun μ1 => (if hs_in x1 8 then hs_bV (hc_State_putWeight d 36 x1 ((μ1.1 24 0 (x1.toNatClampNeg)) + x2) μ1) (fun μ2 => some (none, μ2)) else none)) := by exact (hs_ev_go hp_Trials_feast [] 20 0 _ [] μ).trans rfl
theorem hp_Trials_cakesWorthTrying : hs_prog 86 = (hs_k86, 2, 1) := rfl
set_option maxRecDepth 100000 in
theorem hq_Trials_cakesWorthTrying (d : Nat) (x1 : Int32) (μ : hs_M)  : hc_Trials_cakesWorthTrying (d + 1) x1 μ =
  (if hs_in x1 8 then hs_bI (hc_Math_min d (999 : Int32) ((999 : Int32) - (μ.1 24 0 (x1.toNatClampNeg))) μ) (fun r1 μ1 => some (some (vI r1), μ1)) else none) := by exact (hs_ev_go hp_Trials_cakesWorthTrying [] 13 0 _ [] μ).trans rfl
noncomputable def he_Trials_cakesToStay_9 (d : Nat) (x1 : Int32) (x2 : Int32) (x3 : Int32) (x4 : Int32) (μ : hs_M) : Option (Option hs_V × hs_M) := hs_ev d 87 9 [some (vR 9 0), some (vI x1), some (vI x2), some (vI x3), some (vI x4), none] [] μ
noncomputable def he_Trials_cakesToStay_25 (d : Nat) (x1 : Int32) (x2 : Int32) (x3 : Int32) (x4 : Int32) (x5 : Int32) (μ : hs_M) : Option (Option hs_V × hs_M) := hs_ev d 87 25 [some (vR 9 0), some (vI x1), some (vI x2), some (vI x3), some (vI x4), some (vI x5)] [] μ
noncomputable def he_Trials_cakesToStay_63 (d : Nat) (x1 : Int32) (x2 : Int32) (x3 : Int32) (x4 : Int32) (μ : hs_M) : Option (Option hs_V × hs_M) := hs_ev d 87 63 [some (vR 9 0), some (vI x1), some (vI x2), some (vI x3), some (vI x4), none] [] μ
theorem hp_Trials_cakesToStay : hs_prog 87 = (hs_k87, 6, 1) := rfl
set_option maxRecDepth 100000 in
theorem hq_Trials_cakesToStay (d : Nat) (x1 : Int32) (x2 : Int32) (μ : hs_M)  : hc_Trials_cakesToStay (d + 1) x1 x2 μ =
  hs_bI (hc_Trials_cakesWorthTrying d x1 μ) (fun r1 μ1 => he_Trials_cakesToStay_9 d x1 x2 r1 (0 : Int32) μ1) := by exact (hs_ev_go hp_Trials_cakesToStay [9, 25, 63] 46 0 _ [] μ).trans rfl
set_option maxRecDepth 100000 in
theorem hq_Trials_cakesToStay_9 (d : Nat) (x1 : Int32) (x2 : Int32) (x3 : Int32) (x4 : Int32) (μ : hs_M)  : he_Trials_cakesToStay_9 d x1 x2 x3 x4 μ =
  (if x3 < x4 then some (some (vI (-2 : Int32)), μ) else hs_bV (hc_Trials_feast d x1 x4 μ) (fun μ1 => he_Trials_cakesToStay_25 d x1 x2 x3 x4 (0 : Int32) μ1)) := by exact (hs_ev_go hp_Trials_cakesToStay [9, 25, 63] 46 9 _ [] μ).trans rfl
set_option maxRecDepth 100000 in
theorem hq_Trials_cakesToStay_25 (d : Nat) (x1 : Int32) (x2 : Int32) (x3 : Int32) (x4 : Int32) (x5 : Int32) (μ : hs_M)  : he_Trials_cakesToStay_25 d x1 x2 x3 x4 x5 μ =
  (if x5 < x2 then (if (μ.1 6 36 1) = x1 then hs_bV (hc_Office_pass d 36 (0 : Int32) (255 : Int32) μ) (fun μ1 => he_Trials_cakesToStay_25 d x1 x2 x3 x4 (x5 + (1 : Int32)) μ1) else he_Trials_cakesToStay_63 d x1 x2 x3 x4 μ) else he_Trials_cakesToStay_63 d x1 x2 x3 x4 μ) := by exact (hs_ev_go hp_Trials_cakesToStay [9, 25, 63] 46 25 _ [] μ).trans rfl
set_option maxRecDepth 100000 in
theorem hq_Trials_cakesToStay_63 (d : Nat) (x1 : Int32) (x2 : Int32) (x3 : Int32) (x4 : Int32) (μ : hs_M)  : he_Trials_cakesToStay_63 d x1 x2 x3 x4 μ =
  (if (μ.1 6 36 1) = x1 then some (some (vI x4), μ) else he_Trials_cakesToStay_9 d x1 x2 x3 (x4 + (1 : Int32)) μ) := by exact (hs_ev_go hp_Trials_cakesToStay [9, 25, 63] 46 63 _ [] μ).trans rfl
noncomputable def he_Trials_cakesToServe_9 (d : Nat) (x1 : Int32) (x2 : Int32) (x3 : Int32) (x4 : Int32) (μ : hs_M) : Option (Option hs_V × hs_M) := hs_ev d 88 9 [some (vR 9 0), some (vI x1), some (vI x2), some (vI x3), some (vI x4), none] [] μ
noncomputable def he_Trials_cakesToServe_25 (d : Nat) (x1 : Int32) (x2 : Int32) (x3 : Int32) (x4 : Int32) (x5 : Int32) (μ : hs_M) : Option (Option hs_V × hs_M) := hs_ev d 88 25 [some (vR 9 0), some (vI x1), some (vI x2), some (vI x3), some (vI x4), some (vI x5)] [] μ
theorem hp_Trials_cakesToServe : hs_prog 88 = (hs_k88, 6, 1) := rfl
set_option maxRecDepth 100000 in
theorem hq_Trials_cakesToServe (d : Nat) (x1 : Int32) (x2 : Int32) (μ : hs_M)  : hc_Trials_cakesToServe (d + 1) x1 x2 μ =
  hs_bI (hc_Trials_cakesWorthTrying d x1 μ) (fun r1 μ1 => he_Trials_cakesToServe_9 d x1 x2 r1 (0 : Int32) μ1) := by exact (hs_ev_go hp_Trials_cakesToServe [9, 25] 56 0 _ [] μ).trans rfl
set_option maxRecDepth 100000 in
theorem hq_Trials_cakesToServe_9 (d : Nat) (x1 : Int32) (x2 : Int32) (x3 : Int32) (x4 : Int32) (μ : hs_M)  : he_Trials_cakesToServe_9 d x1 x2 x3 x4 μ =
  (if x3 < x4 then some (some (vI (-2 : Int32)), μ) else hs_bV (hc_Trials_feast d x1 x4 μ) (fun μ1 => he_Trials_cakesToServe_25 d x1 x2 x3 x4 (0 : Int32) μ1)) := by exact (hs_ev_go hp_Trials_cakesToServe [9, 25] 56 9 _ [] μ).trans rfl
set_option maxRecDepth 100000 in
theorem hq_Trials_cakesToServe_25 (d : Nat) (x1 : Int32) (x2 : Int32) (x3 : Int32) (x4 : Int32) (x5 : Int32) (μ : hs_M)  : he_Trials_cakesToServe_25 d x1 x2 x3 x4 x5 μ =
  (if x5 < x2 then hs_bV (hc_Office_pass d 36 (0 : Int32) (255 : Int32) μ) (fun μ1 => he_Trials_cakesToServe_25 d x1 x2 x3 x4 (x5 + (1 : Int32)) μ1) else (if (μ.1 6 36 1) = x1 then (if hs_in x1 8 then (if hs_in x1 8 then hs_bV (hc_Row_begin d (((μ.1 25 36 (x1.toNatClampNeg)) - (μ.1 25 0 (x1.toNatClampNeg))).toInt64) μ) (fun μ2 => some (some (vI x4), μ2)) else none) else none) else he_Trials_cakesToServe_9 d x1 x2 x3 (x4 + (1 : Int32)) μ)) := by exact (hs_ev_go hp_Trials_cakesToServe [9, 25] 56 25 _ [] μ).trans rfl
noncomputable def he_Trials_ouncesToMiss_2 (d : Nat) (x1 : Int32) (x2 : Int32) (x3 : Int32) (μ : hs_M) : Option (Option hs_V × hs_M) := hs_ev d 89 2 [some (vR 9 0), some (vI x1), some (vI x2), some (vI x3), none] [] μ
noncomputable def he_Trials_ouncesToMiss_25 (d : Nat) (x1 : Int32) (x2 : Int32) (x3 : Int32) (x4 : Int32) (μ : hs_M) : Option (Option hs_V × hs_M) := hs_ev d 89 25 [some (vR 9 0), some (vI x1), some (vI x2), some (vI x3), some (vI x4)] [] μ
noncomputable def he_Trials_ouncesToMiss_73 (d : Nat) (x1 : Int32) (x2 : Int32) (x3 : Int32) (μ : hs_M) : Option (Option hs_V × hs_M) := hs_ev d 89 73 [some (vR 9 0), some (vI x1), some (vI x2), some (vI x3), none] [] μ
theorem hp_Trials_ouncesToMiss : hs_prog 89 = (hs_k89, 5, 1) := rfl
set_option maxRecDepth 100000 in
theorem hq_Trials_ouncesToMiss (d : Nat) (x1 : Int32) (x2 : Int32) (μ : hs_M)  : hc_Trials_ouncesToMiss (d + 1) x1 x2 μ =
  he_Trials_ouncesToMiss_2 d x1 x2 (0 : Int32) μ := by exact (hs_ev_go hp_Trials_ouncesToMiss [2, 25, 73] 59 0 _ [] μ).trans rfl
set_option maxRecDepth 100000 in
theorem hq_Trials_ouncesToMiss_2 (d : Nat) (x1 : Int32) (x2 : Int32) (x3 : Int32) (μ : hs_M)  : he_Trials_ouncesToMiss_2 d x1 x2 x3 μ =
  (if hs_in x1 8 then (if x3 < (μ.1 24 0 (x1.toNatClampNeg)) then hs_bV (hc_Trials_feast d x1 (-x3) μ) (fun μ1 => he_Trials_ouncesToMiss_25 d x1 x2 x3 (0 : Int32) μ1) else some (some (vI (-2 : Int32)), μ)) else none) := by exact (hs_ev_go hp_Trials_ouncesToMiss [2, 25, 73] 59 2 _ [] μ).trans rfl
set_option maxRecDepth 100000 in
theorem hq_Trials_ouncesToMiss_25 (d : Nat) (x1 : Int32) (x2 : Int32) (x3 : Int32) (x4 : Int32) (μ : hs_M)  : he_Trials_ouncesToMiss_25 d x1 x2 x3 x4 μ =
  (if x4 < x2 then (if hs_in x1 8 then (if hs_in x1 8 then (if (μ.1 25 36 (x1.toNatClampNeg)) = (μ.1 25 0 (x1.toNatClampNeg)) then hs_bV (hc_Office_pass d 36 (0 : Int32) (255 : Int32) μ) (fun μ1 => he_Trials_ouncesToMiss_25 d x1 x2 x3 (x4 + (1 : Int32)) μ1) else he_Trials_ouncesToMiss_73 d x1 x2 x3 μ) else none) else none) else he_Trials_ouncesToMiss_73 d x1 x2 x3 μ) := by exact (hs_ev_go hp_Trials_ouncesToMiss [2, 25, 73] 59 25 _ [] μ).trans rfl
set_option maxRecDepth 100000 in
theorem hq_Trials_ouncesToMiss_73 (d : Nat) (x1 : Int32) (x2 : Int32) (x3 : Int32) (μ : hs_M)  : he_Trials_ouncesToMiss_73 d x1 x2 x3 μ =
  (if hs_in x1 8 then (if hs_in x1 8 then (if (μ.1 25 36 (x1.toNatClampNeg)) = (μ.1 25 0 (x1.toNatClampNeg)) then some (some (vI x3), μ) else he_Trials_ouncesToMiss_2 d x1 x2 (x3 + (1 : Int32)) μ) else none) else none) := by exact (hs_ev_go hp_Trials_ouncesToMiss [2, 25, 73] 59 73 _ [] μ).trans rfl
noncomputable def he_Trials_leastFed_9 (d : Nat) (x1 : Int32) (x2 : Int32) (x3 : Int32) (μ : hs_M) : Option (Option hs_V × hs_M) := hs_ev d 90 9 [some (vR 9 0), some (vI x1), some (vI x2), some (vI x3), none] [] μ
noncomputable def he_Trials_leastFed_56 (d : Nat) (x1 : Int32) (x2 : Int32) (x3 : Int32) (μ : hs_M) : Option (Option hs_V × hs_M) := hs_ev d 90 56 [some (vR 9 0), some (vI x1), some (vI x2), some (vI x3), none] [] μ
noncomputable def he_Trials_leastFed_75 (d : Nat) (x1 : Int32) (μ : hs_M) : Option (Option hs_V × hs_M) := hs_ev d 90 75 [none, some (vI x1), none, none, none] [] μ
theorem hp_Trials_leastFed : hs_prog 90 = (hs_k90, 5, 1) := rfl
set_option maxRecDepth 100000 in
theorem hq_Trials_leastFed (d : Nat)  (μ : hs_M)  : hc_Trials_leastFed (d + 1)  μ =
  he_Trials_leastFed_9 d (-2 : Int32) (1000 : Int32) (0 : Int32) μ := by exact (hs_ev_go hp_Trials_leastFed [9, 56, 75] 46 0 _ [] μ).trans rfl
set_option maxRecDepth 100000 in
theorem hq_Trials_leastFed_9 (d : Nat) (x1 : Int32) (x2 : Int32) (x3 : Int32) (μ : hs_M)  : he_Trials_leastFed_9 d x1 x2 x3 μ =
  (if x3 < (μ.1 8 0 9) then hs_bI (hc_State_lives d 0 x3 μ) (fun r1 μ1 => (if r1 = 0 then (if (-1 : Int32) = (-1 : Int32) then he_Trials_leastFed_56 d x1 x2 x3 μ1 else he_Trials_leastFed_56 d x3 (-1 : Int32) x3 μ1) else hs_bI (hc_Trials_cakesForNextWeek d x3 (x2 - (1 : Int32)) μ1) (fun r2 μ2 => (if r2 = (-1 : Int32) then he_Trials_leastFed_56 d x1 x2 x3 μ2 else he_Trials_leastFed_56 d x3 r2 x3 μ2)))) else (if x1 < 0 then he_Trials_leastFed_75 d x1 μ else hs_bV (hc_Row_begin d (x2.toInt64) μ) (fun μ3 => he_Trials_leastFed_75 d x1 μ3))) := by exact (hs_ev_go hp_Trials_leastFed [9, 56, 75] 46 9 _ [] μ).trans rfl
set_option maxRecDepth 100000 in
theorem hq_Trials_leastFed_56 (d : Nat) (x1 : Int32) (x2 : Int32) (x3 : Int32) (μ : hs_M)  : he_Trials_leastFed_56 d x1 x2 x3 μ =
  he_Trials_leastFed_9 d x1 x2 (x3 + (1 : Int32)) μ := by exact (hs_ev_go hp_Trials_leastFed [9, 56, 75] 46 56 _ [] μ).trans rfl
set_option maxRecDepth 100000 in
theorem hq_Trials_leastFed_75 (d : Nat) (x1 : Int32) (μ : hs_M)  : he_Trials_leastFed_75 d x1 μ =
  some (some (vI x1), μ) := by exact (hs_ev_go hp_Trials_leastFed [9, 56, 75] 46 75 _ [] μ).trans rfl
noncomputable def he_Trials_cakesForNextWeek_13 (d : Nat) (x1 : Int32) (x3 : Int32) (x4 : Int32) (μ : hs_M) : Option (Option hs_V × hs_M) := hs_ev d 91 13 [some (vR 9 0), some (vI x1), none, some (vI x3), some (vI x4), none] [] μ
noncomputable def he_Trials_cakesForNextWeek_74 (d : Nat) (x4 : Int32) (μ : hs_M) : Option (Option hs_V × hs_M) := hs_ev d 91 74 [none, none, none, none, some (vI x4), none] [] μ
noncomputable def he_Trials_cakesForNextWeek_77 (d : Nat) (x1 : Int32) (x3 : Int32) (x4 : Int32) (μ : hs_M) : Option (Option hs_V × hs_M) := hs_ev d 91 77 [some (vR 9 0), some (vI x1), none, some (vI x3), some (vI x4), none] [] μ
theorem hp_Trials_cakesForNextWeek : hs_prog 91 = (hs_k91, 6, 1) := rfl
set_option maxRecDepth 100000 in
theorem hq_Trials_cakesForNextWeek (d : Nat) (x1 : Int32) (x2 : Int32) (μ : hs_M)  : hc_Trials_cakesForNextWeek (d + 1) x1 x2 μ =
  hs_bI (hc_Trials_cakesWorthTrying d x1 μ) (fun r1 μ1 => hs_bI (hc_Math_min d x2 r1 μ1) (fun r2 μ2 => he_Trials_cakesForNextWeek_13 d x1 r2 (0 : Int32) μ2)) := by exact (hs_ev_go hp_Trials_cakesForNextWeek [13, 74, 77] 51 0 _ [] μ).trans rfl
set_option maxRecDepth 100000 in
theorem hq_Trials_cakesForNextWeek_13 (d : Nat) (x1 : Int32) (x3 : Int32) (x4 : Int32) (μ : hs_M)  : he_Trials_cakesForNextWeek_13 d x1 x3 x4 μ =
  (if x3 < x4 then some (some (vI (-1 : Int32)), μ) else hs_bV (hc_Trials_feast d x1 x4 μ) (fun μ1 => hs_bI (hc_Office_winner d 36 ((1 : Int32) <<< (x1 &&& 31)) ((255 : Int32) &&& (((1 : Int32) <<< (x1 &&& 31)) ^^^ (-1 : Int32))) μ1) (fun r2 μ2 => (if r2 = x1 then he_Trials_cakesForNextWeek_74 d x4 μ2 else (if r2 = (-1 : Int32) then (if (μ2.1 6 0 1) = x1 then he_Trials_cakesForNextWeek_74 d x4 μ2 else he_Trials_cakesForNextWeek_77 d x1 x3 x4 μ2) else he_Trials_cakesForNextWeek_77 d x1 x3 x4 μ2))))) := by exact (hs_ev_go hp_Trials_cakesForNextWeek [13, 74, 77] 51 13 _ [] μ).trans rfl
set_option maxRecDepth 100000 in
theorem hq_Trials_cakesForNextWeek_74 (d : Nat) (x4 : Int32) (μ : hs_M)  : he_Trials_cakesForNextWeek_74 d x4 μ =
  some (some (vI x4), μ) := by exact (hs_ev_go hp_Trials_cakesForNextWeek [13, 74, 77] 51 74 _ [] μ).trans rfl
set_option maxRecDepth 100000 in
theorem hq_Trials_cakesForNextWeek_77 (d : Nat) (x1 : Int32) (x3 : Int32) (x4 : Int32) (μ : hs_M)  : he_Trials_cakesForNextWeek_77 d x1 x3 x4 μ =
  he_Trials_cakesForNextWeek_13 d x1 x3 (x4 + (1 : Int32)) μ := by exact (hs_ev_go hp_Trials_cakesForNextWeek [13, 74, 77] 51 77 _ [] μ).trans rfl
noncomputable def he_Trials_gather_7 (d : Nat) (j1 : Nat) (x2 : Int32) (μ : hs_M) : Option (Option hs_V × hs_M) := hs_ev d 92 7 [some (vR 9 0), some (vR 2 j1), some (vI x2), none, none] [] μ
noncomputable def he_Trials_gather_28 (d : Nat) (j1 : Nat) (x2 : Int32) (μ : hs_M) : Option (Option hs_V × hs_M) := hs_ev d 92 28 [some (vR 9 0), some (vR 2 j1), some (vI x2), none, none] [] μ
noncomputable def he_Trials_gather_80 (d : Nat)  (μ : hs_M) : Option (Option hs_V × hs_M) := hs_ev d 92 80 [none, none, none, none, none] [] μ
noncomputable def he_Trials_gather_82 (d : Nat) (j1 : Nat) (x2 : Int32) (x3 : Int32) (x4 : Int32) (μ : hs_M) : Option (Option hs_V × hs_M) := hs_ev d 92 82 [some (vR 9 0), some (vR 2 j1), some (vI x2), some (vI x3), some (vI x4)] [] μ
theorem hp_Trials_gather : hs_prog 92 = (hs_k92, 5, 3) := rfl
set_option maxRecDepth 100000 in
theorem hq_Trials_gather (d : Nat) (j1 : Nat) (μ : hs_M)  : hc_Trials_gather (d + 1) j1 μ =
  he_Trials_gather_7 d j1 (0 : Int32) (hs_wI μ 9 0 6 (0 : Int32)) := by exact (hs_ev_go hp_Trials_gather [7, 28, 80, 82] 66 0 _ [] μ).trans rfl
set_option maxRecDepth 100000 in
theorem hq_Trials_gather_7 (d : Nat) (j1 : Nat) (x2 : Int32) (μ : hs_M)  : he_Trials_gather_7 d j1 x2 μ =
  (if (60 : Int32) < x2 then he_Trials_gather_28 d j1 (0 : Int32) μ else (if hs_in x2 61 then he_Trials_gather_7 d j1 (x2 + (1 : Int32)) (hs_wI μ 39 0 (x2.toNatClampNeg) (-1 : Int32)) else none)) := by exact (hs_ev_go hp_Trials_gather [7, 28, 80, 82] 66 7 _ [] μ).trans rfl
set_option maxRecDepth 100000 in
theorem hq_Trials_gather_28 (d : Nat) (j1 : Nat) (x2 : Int32) (μ : hs_M)  : he_Trials_gather_28 d j1 x2 μ =
  (if x2 < (μ.1 2 j1 2) then hs_bI (hc_Pairs_value d j1 x2 μ) (fun r1 μ1 => hs_bI (hc_Pairs_person d j1 x2 μ1) (fun r2 μ2 => (if r1 < 0 then he_Trials_gather_80 d μ2 else (if (60 : Int32) < r1 then he_Trials_gather_80 d μ2 else (if hs_in r1 61 then (if (μ2.1 39 0 (r1.toNatClampNeg)) = (-1 : Int32) then he_Trials_gather_82 d j1 x2 r1 r2 μ2 else (if hs_in r1 61 then (if (μ2.1 39 0 (r1.toNatClampNeg)) = r2 then he_Trials_gather_82 d j1 x2 r1 r2 μ2 else he_Trials_gather_80 d μ2) else none)) else none))))) else hs_rz (1 : Int32) μ) := by exact (hs_ev_go hp_Trials_gather [7, 28, 80, 82] 66 28 _ [] μ).trans rfl
set_option maxRecDepth 100000 in
theorem hq_Trials_gather_80 (d : Nat)  (μ : hs_M)  : he_Trials_gather_80 d  μ =
  hs_rz (0 : Int32) μ := by exact (hs_ev_go hp_Trials_gather [7, 28, 80, 82] 66 80 _ [] μ).trans rfl
set_option maxRecDepth 100000 in
theorem hq_Trials_gather_82 (d : Nat) (j1 : Nat) (x2 : Int32) (x3 : Int32) (x4 : Int32) (μ : hs_M)  : he_Trials_gather_82 d j1 x2 x3 x4 μ =
  (if hs_in x3 61 then hs_bI (hc_Math_max d (μ.1 9 0 6) x3 (hs_wI μ 39 0 (x3.toNatClampNeg) x4)) (fun r1 μ1 => he_Trials_gather_28 d j1 (x2 + (1 : Int32)) (hs_wI μ1 9 0 6 r1)) else none) := by exact (hs_ev_go hp_Trials_gather [7, 28, 80, 82] 66 82 _ [] μ).trans rfl
noncomputable def he_Trials_comesAsDue_2 (d : Nat) (x1 : Int32) (x2 : Int32) (μ : hs_M) : Option (Option hs_V × hs_M) := hs_ev d 93 2 [some (vR 9 0), some (vI x1), some (vI x2)] [] μ
noncomputable def he_Trials_comesAsDue_57 (d : Nat) (x1 : Int32) (x2 : Int32) (μ : hs_M) : Option (Option hs_V × hs_M) := hs_ev d 93 57 [some (vR 9 0), some (vI x1), some (vI x2)] [] μ
noncomputable def he_Trials_comesAsDue_63 (d : Nat)  (μ : hs_M) : Option (Option hs_V × hs_M) := hs_ev d 93 63 [none, none, none] [] μ
theorem hp_Trials_comesAsDue : hs_prog 93 = (hs_k93, 3, 3) := rfl
set_option maxRecDepth 100000 in
theorem hq_Trials_comesAsDue (d : Nat) (x1 : Int32) (μ : hs_M)  : hc_Trials_comesAsDue (d + 1) x1 μ =
  he_Trials_comesAsDue_2 d x1 (1 : Int32) μ := by exact (hs_ev_go hp_Trials_comesAsDue [2, 57, 63] 39 0 _ [] μ).trans rfl
set_option maxRecDepth 100000 in
theorem hq_Trials_comesAsDue_2 (d : Nat) (x1 : Int32) (x2 : Int32) (μ : hs_M)  : he_Trials_comesAsDue_2 d x1 x2 μ =
  (if (μ.1 9 0 6) < x2 then he_Trials_comesAsDue_63 d μ else (if (60 : Int32) < x2 then he_Trials_comesAsDue_63 d μ else hs_bV (hc_Office_pass d 36 (0 : Int32) x1 μ) (fun μ1 => (if hs_in x2 61 then (if (μ1.1 39 0 (x2.toNatClampNeg)) = (-1 : Int32) then he_Trials_comesAsDue_57 d x1 x2 μ1 else (if hs_in x2 61 then (if (μ1.1 39 0 (x2.toNatClampNeg)) = (μ1.1 6 36 1) then he_Trials_comesAsDue_57 d x1 x2 μ1 else hs_rz (0 : Int32) μ1) else none)) else none)))) := by exact (hs_ev_go hp_Trials_comesAsDue [2, 57, 63] 39 2 _ [] μ).trans rfl
set_option maxRecDepth 100000 in
theorem hq_Trials_comesAsDue_57 (d : Nat) (x1 : Int32) (x2 : Int32) (μ : hs_M)  : he_Trials_comesAsDue_57 d x1 x2 μ =
  he_Trials_comesAsDue_2 d x1 (x2 + (1 : Int32)) μ := by exact (hs_ev_go hp_Trials_comesAsDue [2, 57, 63] 39 57 _ [] μ).trans rfl
set_option maxRecDepth 100000 in
theorem hq_Trials_comesAsDue_63 (d : Nat)  (μ : hs_M)  : he_Trials_comesAsDue_63 d  μ =
  hs_rz (1 : Int32) μ := by exact (hs_ev_go hp_Trials_comesAsDue [2, 57, 63] 39 63 _ [] μ).trans rfl
noncomputable def he_Trials_explainingWeights_28 (d : Nat) (x2 : Int32) (x3 : Int32) (x4 : Int32) (x5 : Int32) (x6 : Int32) (x7 : Int32) (μ : hs_M) : Option (Option hs_V × hs_M) := hs_ev d 94 28 [some (vR 9 0), none, some (vI x2), some (vI x3), some (vI x4), some (vI x5), some (vI x6), some (vI x7)] [] μ
noncomputable def he_Trials_explainingWeights_82 (d : Nat) (x2 : Int32) (x3 : Int32) (x4 : Int32) (x5 : Int32) (x6 : Int32) (x7 : Int32) (μ : hs_M) : Option (Option hs_V × hs_M) := hs_ev d 94 82 [some (vR 9 0), none, some (vI x2), some (vI x3), some (vI x4), some (vI x5), some (vI x6), some (vI x7)] [] μ
theorem hp_Trials_explainingWeights : hs_prog 94 = (hs_k94, 8, 1) := rfl
set_option maxRecDepth 100000 in
theorem hq_Trials_explainingWeights (d : Nat) (j1 : Nat) (x2 : Int32) (μ : hs_M)  : hc_Trials_explainingWeights (d + 1) j1 x2 μ =
  hs_bI (hc_Trials_gather d j1 μ) (fun r1 μ1 => (if r1 = 0 then he_Trials_explainingWeights_28 d x2 (0 : Int32) (0 : Int32) (0 : Int32) (0 : Int32) (1 : Int32) μ1 else he_Trials_explainingWeights_28 d x2 (0 : Int32) (0 : Int32) (0 : Int32) (999 : Int32) (1 : Int32) μ1)) := by exact (hs_ev_go hp_Trials_explainingWeights [28, 82] 55 0 _ [] μ).trans rfl
set_option maxRecDepth 100000 in
theorem hq_Trials_explainingWeights_28 (d : Nat) (x2 : Int32) (x3 : Int32) (x4 : Int32) (x5 : Int32) (x6 : Int32) (x7 : Int32) (μ : hs_M)  : he_Trials_explainingWeights_28 d x2 x3 x4 x5 x6 x7 μ =
  (if x6 < x7 then hs_bV (hc_Row_range d x3 x4 x5 μ) (fun μ1 => some (some (vI x3), μ1)) else (if hs_in x2 8 then hs_bV (hc_Trials_feast d x2 (x7 - (μ.1 24 0 (x2.toNatClampNeg))) μ) (fun μ2 => hs_bI (hc_Trials_comesAsDue d (255 : Int32) μ2) (fun r3 μ3 => (if r3 = 0 then he_Trials_explainingWeights_82 d x2 x3 x4 x5 x6 x7 μ3 else (if x3 = 0 then he_Trials_explainingWeights_82 d x2 (x3 + (1 : Int32)) x7 x7 x6 x7 μ3 else he_Trials_explainingWeights_82 d x2 (x3 + (1 : Int32)) x4 x7 x6 x7 μ3)))) else none)) := by exact (hs_ev_go hp_Trials_explainingWeights [28, 82] 55 28 _ [] μ).trans rfl
set_option maxRecDepth 100000 in
theorem hq_Trials_explainingWeights_82 (d : Nat) (x2 : Int32) (x3 : Int32) (x4 : Int32) (x5 : Int32) (x6 : Int32) (x7 : Int32) (μ : hs_M)  : he_Trials_explainingWeights_82 d x2 x3 x4 x5 x6 x7 μ =
  he_Trials_explainingWeights_28 d x2 x3 x4 x5 x6 (x7 + (1 : Int32)) μ := by exact (hs_ev_go hp_Trials_explainingWeights [28, 82] 55 82 _ [] μ).trans rfl
noncomputable def he_Trials_explainingAbsences_48 (d : Nat) (x2 : Int32) (x3 : Int32) (x4 : Int32) (μ : hs_M) : Option (Option hs_V × hs_M) := hs_ev d 95 48 [some (vR 9 0), none, some (vI x2), some (vI x3), some (vI x4)] [] μ
noncomputable def he_Trials_explainingAbsences_111 (d : Nat) (x2 : Int32) (x3 : Int32) (x4 : Int32) (μ : hs_M) : Option (Option hs_V × hs_M) := hs_ev d 95 111 [some (vR 9 0), none, some (vI x2), some (vI x3), some (vI x4)] [] μ
theorem hp_Trials_explainingAbsences : hs_prog 95 = (hs_k95, 5, 1) := rfl
set_option maxRecDepth 100000 in
theorem hq_Trials_explainingAbsences (d : Nat) (j1 : Nat) (μ : hs_M)  : hc_Trials_explainingAbsences (d + 1) j1 μ =
  hs_bI (hc_Trials_gather d j1 μ) (fun r1 μ1 => hs_bV (hc_State_follow d 36 0 μ1) (fun μ2 => (if r1 = 0 then hs_bV (hc_Row_begin d (0 : Int64) μ2) (fun μ3 => he_Trials_explainingAbsences_48 d r1 (0 : Int32) (0 : Int32) μ3) else hs_bI (hc_Trials_comesAsDue d (255 : Int32) μ2) (fun r4 μ4 => (if r4 = 0 then hs_bV (hc_Row_begin d (0 : Int64) μ4) (fun μ5 => he_Trials_explainingAbsences_48 d r1 (0 : Int32) (0 : Int32) μ5) else hs_bV (hc_Row_begin d (1 : Int64) μ4) (fun μ6 => he_Trials_explainingAbsences_48 d r1 (0 : Int32) (0 : Int32) μ6)))))) := by exact (hs_ev_go hp_Trials_explainingAbsences [48, 111] 65 0 _ [] μ).trans rfl
set_option maxRecDepth 100000 in
theorem hq_Trials_explainingAbsences_48 (d : Nat) (x2 : Int32) (x3 : Int32) (x4 : Int32) (μ : hs_M)  : he_Trials_explainingAbsences_48 d x2 x3 x4 μ =
  (if x4 < (μ.1 8 0 9) then hs_bV (hc_State_follow d 36 0 μ) (fun μ1 => (if x2 = 0 then he_Trials_explainingAbsences_111 d x2 x3 x4 μ1 else hs_bI (hc_State_lives d 0 x4 μ1) (fun r2 μ2 => (if r2 = 0 then he_Trials_explainingAbsences_111 d x2 x3 x4 μ2 else hs_bI (hc_Trials_comesAsDue d ((255 : Int32) &&& (((1 : Int32) <<< (x4 &&& 31)) ^^^ (-1 : Int32))) μ2) (fun r3 μ3 => (if r3 = 0 then he_Trials_explainingAbsences_111 d x2 x3 x4 μ3 else he_Trials_explainingAbsences_111 d x2 (x3 ||| ((1 : Int32) <<< (x4 &&& 31))) x4 μ3)))))) else some (some (vI x3), μ)) := by exact (hs_ev_go hp_Trials_explainingAbsences [48, 111] 65 48 _ [] μ).trans rfl
set_option maxRecDepth 100000 in
theorem hq_Trials_explainingAbsences_111 (d : Nat) (x2 : Int32) (x3 : Int32) (x4 : Int32) (μ : hs_M)  : he_Trials_explainingAbsences_111 d x2 x3 x4 μ =
  he_Trials_explainingAbsences_48 d x2 x3 (x4 + (1 : Int32)) μ := by exact (hs_ev_go hp_Trials_explainingAbsences [48, 111] 65 111 _ [] μ).trans rfl
noncomputable def he_Will_read_43 (d : Nat)  (μ : hs_M) : Option (Option hs_V × hs_M) := hs_ev d 96 43 [some (vR 10 0), none] [] μ
noncomputable def he_Will_read_48 (d : Nat)  (μ : hs_M) : Option (Option hs_V × hs_M) := hs_ev d 96 48 [some (vR 10 0), none] [] μ
theorem hp_Will_read : hs_prog 96 = (hs_k96, 2, 1) := rfl
set_option maxRecDepth 100000 in
theorem hq_Will_read (d : Nat)  (μ : hs_M)  : hc_Will_read (d + 1)  μ =
  hs_bV (hc_Text_open d (40 : Int32) μ) (fun μ1 => (if 0 < (μ1.1 7 0 1) then hs_bI (hc_Will_readComparison d (0 : Int32) (hs_wI (hs_wI μ1 10 0 5 (0 : Int32)) 10 0 4 (0 : Int32))) (fun r2 μ2 => (if r2 = 0 then he_Will_read_43 d μ2 else (if (μ2.1 10 0 5) < (μ2.1 7 0 1) then he_Will_read_43 d μ2 else he_Will_read_48 d μ2))) else he_Will_read_48 d (hs_wI (hs_wI μ1 10 0 5 (0 : Int32)) 10 0 4 (0 : Int32)))) := by exact (hs_ev_go hp_Will_read [43, 48] 42 0 _ [] μ).trans rfl
set_option maxRecDepth 100000 in
theorem hq_Will_read_43 (d : Nat)  (μ : hs_M)  : he_Will_read_43 d  μ =
  some (some (vI (μ.1 10 0 5)), μ) := by exact (hs_ev_go hp_Will_read [43, 48] 42 43 _ [] μ).trans rfl
set_option maxRecDepth 100000 in
theorem hq_Will_read_48 (d : Nat)  (μ : hs_M)  : he_Will_read_48 d  μ =
  some (some (vI (-1 : Int32)), (hs_wI (hs_cp μ 22 0 0 21 0 0 40) 10 0 3 (μ.1 10 0 4))) := by exact (hs_ev_go hp_Will_read [43, 48] 42 48 _ [] μ).trans rfl
noncomputable def he_Will_readComparison_42 (d : Nat) (x2 : Int32) (x4 : Int32) (μ : hs_M) : Option (Option hs_V × hs_M) := hs_ev d 97 42 [some (vR 10 0), some (vR 7 0), some (vI x2), none, some (vI x4)] [] μ
noncomputable def he_Will_readComparison_69 (d : Nat) (x3 : Int32) (μ : hs_M) : Option (Option hs_V × hs_M) := hs_ev d 97 69 [none, none, none, some (vI x3), none] [] μ
theorem hp_Will_readComparison : hs_prog 97 = (hs_k97, 5, 3) := rfl
set_option maxRecDepth 100000 in
theorem hq_Will_readComparison (d : Nat) (x2 : Int32) (μ : hs_M)  : hc_Will_readComparison (d + 1) x2 μ =
  hs_bI (hc_Will_readSum d x2 μ) (fun r1 μ1 => hs_bI (hc_Text_signAt d (μ1.1 10 0 5) μ1) (fun r2 μ2 => (if r1 = 0 then he_Will_readComparison_69 d r1 μ2 else (if r2 = (60 : Int32) then he_Will_readComparison_42 d x2 r2 μ2 else (if r2 = (62 : Int32) then he_Will_readComparison_42 d x2 r2 μ2 else (if r2 = (61 : Int32) then he_Will_readComparison_42 d x2 r2 μ2 else he_Will_readComparison_69 d r1 μ2)))))) := by exact (hs_ev_go hp_Will_readComparison [42, 69] 42 0 _ [] μ).trans rfl
set_option maxRecDepth 100000 in
theorem hq_Will_readComparison_42 (d : Nat) (x2 : Int32) (x4 : Int32) (μ : hs_M)  : he_Will_readComparison_42 d x2 x4 μ =
  hs_bI (hc_Will_readSum d x2 (hs_wI μ 10 0 5 ((μ.1 10 0 5) + (1 : Int32)))) (fun r1 μ1 => hs_bV (hc_Will_emit d ((2000 : Int32) + x4) μ1) (fun μ2 => he_Will_readComparison_69 d r1 μ2)) := by exact (hs_ev_go hp_Will_readComparison [42, 69] 42 42 _ [] μ).trans rfl
set_option maxRecDepth 100000 in
theorem hq_Will_readComparison_69 (d : Nat) (x3 : Int32) (μ : hs_M)  : he_Will_readComparison_69 d x3 μ =
  hs_rz x3 μ := by exact (hs_ev_go hp_Will_readComparison [42, 69] 42 69 _ [] μ).trans rfl
noncomputable def he_Will_readSum_10 (d : Nat) (x2 : Int32) (x3 : Int32) (x4 : Int32) (μ : hs_M) : Option (Option hs_V × hs_M) := hs_ev d 98 10 [some (vR 10 0), some (vR 7 0), some (vI x2), some (vI x3), some (vI x4), none] [] μ
noncomputable def he_Will_readSum_48 (d : Nat) (x2 : Int32) (x4 : Int32) (x5 : Int32) (μ : hs_M) : Option (Option hs_V × hs_M) := hs_ev d 98 48 [some (vR 10 0), some (vR 7 0), some (vI x2), none, some (vI x4), some (vI x5)] [] μ
noncomputable def he_Will_readSum_81 (d : Nat) (x3 : Int32) (μ : hs_M) : Option (Option hs_V × hs_M) := hs_ev d 98 81 [none, none, none, some (vI x3), none, none] [] μ
theorem hp_Will_readSum : hs_prog 98 = (hs_k98, 6, 3) := rfl
set_option maxRecDepth 100000 in
theorem hq_Will_readSum (d : Nat) (x2 : Int32) (μ : hs_M)  : hc_Will_readSum (d + 1) x2 μ =
  hs_bI (hc_Will_readProduct d x2 μ) (fun r1 μ1 => he_Will_readSum_10 d x2 r1 (0 : Int32) μ1) := by exact (hs_ev_go hp_Will_readSum [10, 48, 81] 47 0 _ [] μ).trans rfl
set_option maxRecDepth 100000 in
theorem hq_Will_readSum_10 (d : Nat) (x2 : Int32) (x3 : Int32) (x4 : Int32) (μ : hs_M)  : he_Will_readSum_10 d x2 x3 x4 μ =
  (if x4 < (40 : Int32) then (if x3 = 0 then he_Will_readSum_81 d x3 μ else hs_bI (hc_Text_signAt d (μ.1 10 0 5) μ) (fun r1 μ1 => (if r1 = (43 : Int32) then he_Will_readSum_48 d x2 x4 r1 μ1 else (if r1 = (45 : Int32) then he_Will_readSum_48 d x2 x4 r1 μ1 else he_Will_readSum_81 d x3 μ1)))) else he_Will_readSum_81 d x3 μ) := by exact (hs_ev_go hp_Will_readSum [10, 48, 81] 47 10 _ [] μ).trans rfl
set_option maxRecDepth 100000 in
theorem hq_Will_readSum_48 (d : Nat) (x2 : Int32) (x4 : Int32) (x5 : Int32) (μ : hs_M)  : he_Will_readSum_48 d x2 x4 x5 μ =
  hs_bI (hc_Will_readProduct d x2 (hs_wI μ 10 0 5 ((μ.1 10 0 5) + (1 : Int32)))) (fun r1 μ1 => hs_bV (hc_Will_emit d ((2000 : Int32) + x5) μ1) (fun μ2 => he_Will_readSum_10 d x2 r1 (x4 + (1 : Int32)) μ2)) := by exact (hs_ev_go hp_Will_readSum [10, 48, 81] 47 48 _ [] μ).trans rfl
set_option maxRecDepth 100000 in
theorem hq_Will_readSum_81 (d : Nat) (x3 : Int32) (μ : hs_M)  : he_Will_readSum_81 d x3 μ =
  hs_rz x3 μ := by exact (hs_ev_go hp_Will_readSum [10, 48, 81] 47 81 _ [] μ).trans rfl
noncomputable def he_Will_readProduct_10 (d : Nat) (x2 : Int32) (x3 : Int32) (x4 : Int32) (μ : hs_M) : Option (Option hs_V × hs_M) := hs_ev d 99 10 [some (vR 10 0), some (vR 7 0), some (vI x2), some (vI x3), some (vI x4), none] [] μ
noncomputable def he_Will_readProduct_48 (d : Nat) (x2 : Int32) (x4 : Int32) (x5 : Int32) (μ : hs_M) : Option (Option hs_V × hs_M) := hs_ev d 99 48 [some (vR 10 0), some (vR 7 0), some (vI x2), none, some (vI x4), some (vI x5)] [] μ
noncomputable def he_Will_readProduct_81 (d : Nat) (x3 : Int32) (μ : hs_M) : Option (Option hs_V × hs_M) := hs_ev d 99 81 [none, none, none, some (vI x3), none, none] [] μ
theorem hp_Will_readProduct : hs_prog 99 = (hs_k99, 6, 3) := rfl
set_option maxRecDepth 100000 in
theorem hq_Will_readProduct (d : Nat) (x2 : Int32) (μ : hs_M)  : hc_Will_readProduct (d + 1) x2 μ =
  hs_bI (hc_Will_readThing d x2 μ) (fun r1 μ1 => he_Will_readProduct_10 d x2 r1 (0 : Int32) μ1) := by exact (hs_ev_go hp_Will_readProduct [10, 48, 81] 47 0 _ [] μ).trans rfl
set_option maxRecDepth 100000 in
theorem hq_Will_readProduct_10 (d : Nat) (x2 : Int32) (x3 : Int32) (x4 : Int32) (μ : hs_M)  : he_Will_readProduct_10 d x2 x3 x4 μ =
  (if x4 < (40 : Int32) then (if x3 = 0 then he_Will_readProduct_81 d x3 μ else hs_bI (hc_Text_signAt d (μ.1 10 0 5) μ) (fun r1 μ1 => (if r1 = (42 : Int32) then he_Will_readProduct_48 d x2 x4 r1 μ1 else (if r1 = (47 : Int32) then he_Will_readProduct_48 d x2 x4 r1 μ1 else he_Will_readProduct_81 d x3 μ1)))) else he_Will_readProduct_81 d x3 μ) := by exact (hs_ev_go hp_Will_readProduct [10, 48, 81] 47 10 _ [] μ).trans rfl
set_option maxRecDepth 100000 in
theorem hq_Will_readProduct_48 (d : Nat) (x2 : Int32) (x4 : Int32) (x5 : Int32) (μ : hs_M)  : he_Will_readProduct_48 d x2 x4 x5 μ =
  hs_bI (hc_Will_readThing d x2 (hs_wI μ 10 0 5 ((μ.1 10 0 5) + (1 : Int32)))) (fun r1 μ1 => hs_bV (hc_Will_emit d ((2000 : Int32) + x5) μ1) (fun μ2 => he_Will_readProduct_10 d x2 r1 (x4 + (1 : Int32)) μ2)) := by exact (hs_ev_go hp_Will_readProduct [10, 48, 81] 47 48 _ [] μ).trans rfl
set_option maxRecDepth 100000 in
theorem hq_Will_readProduct_81 (d : Nat) (x3 : Int32) (μ : hs_M)  : he_Will_readProduct_81 d x3 μ =
  hs_rz x3 μ := by exact (hs_ev_go hp_Will_readProduct [10, 48, 81] 47 81 _ [] μ).trans rfl
noncomputable def he_Will_readThing_5 (d : Nat) (x2 : Int32) (x3 : Int32) (x4 : Int32) (μ : hs_M) : Option (Option hs_V × hs_M) := hs_ev d 100 5 [some (vR 10 0), some (vR 7 0), some (vI x2), some (vI x3), some (vI x4), none] [] μ
noncomputable def he_Will_readThing_51 (d : Nat) (x2 : Int32) (x3 : Int32) (μ : hs_M) : Option (Option hs_V × hs_M) := hs_ev d 100 51 [some (vR 10 0), some (vR 7 0), some (vI x2), some (vI x3), none, none] [] μ
noncomputable def he_Will_readThing_89 (d : Nat) (x3 : Int32) (μ : hs_M) : Option (Option hs_V × hs_M) := hs_ev d 100 89 [some (vR 10 0), none, none, some (vI x3), none, none] [] μ
noncomputable def he_Will_readThing_117 (d : Nat) (x3 : Int32) (x4 : Int32) (x5 : Int32) (μ : hs_M) : Option (Option hs_V × hs_M) := hs_ev d 100 117 [some (vR 10 0), none, none, some (vI x3), some (vI x4), some (vI x5)] [] μ
noncomputable def he_Will_readThing_151 (d : Nat) (x3 : Int32) (x5 : Int32) (μ : hs_M) : Option (Option hs_V × hs_M) := hs_ev d 100 151 [some (vR 10 0), none, none, some (vI x3), none, some (vI x5)] [] μ
noncomputable def he_Will_readThing_162 (d : Nat) (x5 : Int32) (μ : hs_M) : Option (Option hs_V × hs_M) := hs_ev d 100 162 [none, none, none, none, none, some (vI x5)] [] μ
theorem hp_Will_readThing : hs_prog 100 = (hs_k100, 6, 3) := rfl
set_option maxRecDepth 100000 in
theorem hq_Will_readThing (d : Nat) (x2 : Int32) (μ : hs_M)  : hc_Will_readThing (d + 1) x2 μ =
  he_Will_readThing_5 d x2 (0 : Int32) (0 : Int32) μ := by exact (hs_ev_go hp_Will_readThing [5, 51, 89, 117, 151, 162] 87 0 _ [] μ).trans rfl
set_option maxRecDepth 100000 in
theorem hq_Will_readThing_5 (d : Nat) (x2 : Int32) (x3 : Int32) (x4 : Int32) (μ : hs_M)  : he_Will_readThing_5 d x2 x3 x4 μ =
  (if x4 < (40 : Int32) then hs_bI (hc_Text_signAt d (μ.1 10 0 5) μ) (fun r1 μ1 => (if r1 = (45 : Int32) then (if x3 = 0 then he_Will_readThing_5 d x2 (1 : Int32) (x4 + (1 : Int32)) (hs_wI μ1 10 0 5 ((μ1.1 10 0 5) + (1 : Int32))) else he_Will_readThing_5 d x2 (0 : Int32) (x4 + (1 : Int32)) (hs_wI μ1 10 0 5 ((μ1.1 10 0 5) + (1 : Int32)))) else he_Will_readThing_51 d x2 x3 μ1)) else he_Will_readThing_51 d x2 x3 μ) := by exact (hs_ev_go hp_Will_readThing [5, 51, 89, 117, 151, 162] 87 5 _ [] μ).trans rfl
set_option maxRecDepth 100000 in
theorem hq_Will_readThing_51 (d : Nat) (x2 : Int32) (x3 : Int32) (μ : hs_M)  : he_Will_readThing_51 d x2 x3 μ =
  hs_bI (hc_Text_signAt d (μ.1 10 0 5) μ) (fun r1 μ1 => (if r1 = (40 : Int32) then (if x2 < (4 : Int32) then hs_bI (hc_Will_readBracket d x2 μ1) (fun r2 μ2 => (if r2 = 0 then he_Will_readThing_89 d x3 μ2 else he_Will_readThing_151 d x3 (1 : Int32) μ2)) else he_Will_readThing_89 d x3 μ1) else (if r1 < (48 : Int32) then he_Will_readThing_117 d x3 r1 (1 : Int32) μ1 else (if (57 : Int32) < r1 then he_Will_readThing_117 d x3 r1 (1 : Int32) μ1 else hs_bV (hc_Will_readNumber d μ1) (fun μ3 => he_Will_readThing_151 d x3 (1 : Int32) μ3))))) := by exact (hs_ev_go hp_Will_readThing [5, 51, 89, 117, 151, 162] 87 51 _ [] μ).trans rfl
set_option maxRecDepth 100000 in
theorem hq_Will_readThing_89 (d : Nat) (x3 : Int32) (μ : hs_M)  : he_Will_readThing_89 d x3 μ =
  he_Will_readThing_151 d x3 (0 : Int32) μ := by exact (hs_ev_go hp_Will_readThing [5, 51, 89, 117, 151, 162] 87 89 _ [] μ).trans rfl
set_option maxRecDepth 100000 in
theorem hq_Will_readThing_117 (d : Nat) (x3 : Int32) (x4 : Int32) (x5 : Int32) (μ : hs_M)  : he_Will_readThing_117 d x3 x4 x5 μ =
  hs_bI (hc_Will_isFact d x4 μ) (fun r1 μ1 => (if r1 = 0 then he_Will_readThing_151 d x3 (0 : Int32) μ1 else hs_bV (hc_Will_emit d ((1000 : Int32) + x4) μ1) (fun μ2 => he_Will_readThing_151 d x3 x5 (hs_wI μ2 10 0 5 ((μ2.1 10 0 5) + (1 : Int32)))))) := by exact (hs_ev_go hp_Will_readThing [5, 51, 89, 117, 151, 162] 87 117 _ [] μ).trans rfl
set_option maxRecDepth 100000 in
theorem hq_Will_readThing_151 (d : Nat) (x3 : Int32) (x5 : Int32) (μ : hs_M)  : he_Will_readThing_151 d x3 x5 μ =
  (if x3 = 0 then he_Will_readThing_162 d x5 μ else hs_bV (hc_Will_emit d (3000 : Int32) μ) (fun μ1 => he_Will_readThing_162 d x5 μ1)) := by exact (hs_ev_go hp_Will_readThing [5, 51, 89, 117, 151, 162] 87 151 _ [] μ).trans rfl
set_option maxRecDepth 100000 in
theorem hq_Will_readThing_162 (d : Nat) (x5 : Int32) (μ : hs_M)  : he_Will_readThing_162 d x5 μ =
  hs_rz x5 μ := by exact (hs_ev_go hp_Will_readThing [5, 51, 89, 117, 151, 162] 87 162 _ [] μ).trans rfl
