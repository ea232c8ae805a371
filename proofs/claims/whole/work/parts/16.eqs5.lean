/-! ===== the equations of the methods, 5 ===== -/
theorem hp_H_wipe : hs_prog 148 = (hs_k148, 2, 1) := rfl
set_option maxRecDepth 100000 in
theorem hq_H_wipe (d : Nat)  (μ : hs_M)  : hc_H_wipe (d + 1)  μ =
  some (some (vI (μ.1 2 1 2)), (hs_wI μ 2 1 2 (0 : Int32))) := by exact (hs_ev_go hp_H_wipe [] 13 0 _ [] μ).trans rfl
theorem hp_H_explains : hs_prog 149 = (hs_k149, 2, 1) := rfl
set_option maxRecDepth 100000 in
theorem hq_H_explains (d : Nat) (x1 : Int32) (μ : hs_M)  : hc_H_explains (d + 1) x1 μ =
  hs_bI (hc_H_isThere d x1 μ) (fun r1 μ1 => (if r1 = 0 then some (some (vI (-1 : Int32)), μ1) else hs_bI (hc_Trials_explainingWeights d 1 x1 μ1) (fun r2 μ2 => some (some (vI r2), μ2)))) := by exact (hs_ev_go hp_H_explains [] 16 0 _ [] μ).trans rfl
theorem hp_H_absent : hs_prog 150 = (hs_k150, 1, 1) := rfl
set_option maxRecDepth 100000 in
theorem hq_H_absent (d : Nat)  (μ : hs_M)  : hc_H_absent (d + 1)  μ =
  hs_bI (hc_Trials_explainingAbsences d 1 μ) (fun r1 μ1 => some (some (vI r1), μ1)) := by exact (hs_ev_go hp_H_absent [] 9 0 _ [] μ).trans rfl
noncomputable def he_H_twin_20 (d : Nat)  (μ : hs_M) : Option (Option hs_V × hs_M) := hs_ev d 151 20 [none, none, none] [] μ
theorem hp_H_twin : hs_prog 151 = (hs_k151, 3, 1) := rfl
set_option maxRecDepth 100000 in
theorem hq_H_twin (d : Nat) (x1 : Int32) (μ : hs_M)  : hc_H_twin (d + 1) x1 μ =
  hs_bI (hc_H_isThere d x1 μ) (fun r1 μ1 => (if r1 = 0 then he_H_twin_20 d μ1 else (if (μ1.1 8 0 9) < (8 : Int32) then hs_bV (hc_Town_copyPerson d x1 (μ1.1 8 0 9) μ1) (fun μ2 => (if hs_in x1 8 then hs_bV (hc_State_welcome d 0 (μ1.1 8 0 9) (μ2.1 24 0 (x1.toNatClampNeg)) μ2) (fun μ3 => hs_bV (hc_Town_countOneMore d μ3) (fun μ4 => hs_bV (hc_Past_forgetSteps d μ4) (fun μ5 => some (some (vI (μ1.1 8 0 9)), μ5)))) else none)) else he_H_twin_20 d μ1))) := by exact (hs_ev_go hp_H_twin [20] 40 0 _ [] μ).trans rfl
set_option maxRecDepth 100000 in
theorem hq_H_twin_20 (d : Nat)  (μ : hs_M)  : he_H_twin_20 d  μ =
  some (some (vI (-1 : Int32)), μ) := by exact (hs_ev_go hp_H_twin [20] 40 20 _ [] μ).trans rfl
noncomputable def he_H_odds_20 (d : Nat)  (μ : hs_M) : Option (Option hs_V × hs_M) := hs_ev d 152 20 [none, none, none] [] μ
theorem hp_H_odds : hs_prog 152 = (hs_k152, 3, 1) := rfl
set_option maxRecDepth 100000 in
theorem hq_H_odds (d : Nat) (x1 : Int32) (x2 : Int32) (μ : hs_M)  : hc_H_odds (d + 1) x1 x2 μ =
  hs_bI (hc_Town_has d x1 μ) (fun r1 μ1 => (if r1 = 0 then he_H_odds_20 d μ1 else (if x2 < 0 then he_H_odds_20 d μ1 else (if (2 : Int32) < x2 then he_H_odds_20 d μ1 else hs_bV (hc_Future_tellChance d x1 x2 μ1) (fun μ2 => some (some (vI (0 : Int32)), μ2)))))) := by exact (hs_ev_go hp_H_odds [20] 22 0 _ [] μ).trans rfl
set_option maxRecDepth 100000 in
theorem hq_H_odds_20 (d : Nat)  (μ : hs_M)  : he_H_odds_20 d  μ =
  some (some (vI (-1 : Int32)), μ) := by exact (hs_ev_go hp_H_odds [20] 22 20 _ [] μ).trans rfl
theorem hp_H_likely : hs_prog 153 = (hs_k153, 1, 1) := rfl
set_option maxRecDepth 100000 in
theorem hq_H_likely (d : Nat)  (μ : hs_M)  : hc_H_likely (d + 1)  μ =
  hs_bI (hc_Future_likeliest d μ) (fun r1 μ1 => some (some (vI r1), μ1)) := by exact (hs_ev_go hp_H_likely [] 7 0 _ [] μ).trans rfl
theorem hp_H_keep : hs_prog 154 = (hs_k154, 2, 3) := rfl
set_option maxRecDepth 100000 in
theorem hq_H_keep (d : Nat) (x1 : Int32) (μ : hs_M)  : hc_H_keep (d + 1) x1 μ =
  hs_bI (hc_Past_keepAside d x1 0 (μ.1 8 0 9) μ) (fun r1 μ1 => hs_rz r1 μ1) := by exact (hs_ev_go hp_H_keep [] 13 0 _ [] μ).trans rfl
theorem hp_H_again : hs_prog 155 = (hs_k155, 2, 3) := rfl
set_option maxRecDepth 100000 in
theorem hq_H_again (d : Nat) (x1 : Int32) (μ : hs_M)  : hc_H_again (d + 1) x1 μ =
  hs_bI (hc_Past_takeAgain d x1 0 (μ.1 8 0 9) μ) (fun r1 μ1 => hs_rz r1 μ1) := by exact (hs_ev_go hp_H_again [] 13 0 _ [] μ).trans rfl
theorem hp_H_count : hs_prog 156 = (hs_k156, 2, 1) := rfl
set_option maxRecDepth 100000 in
theorem hq_H_count (d : Nat) (x1 : Int32) (μ : hs_M)  : hc_H_count (d + 1) x1 μ =
  (if x1 = (0 : Int32) then some (some (vI (μ.1 8 0 9)), μ) else (if x1 = (1 : Int32) then some (some (vI (μ.1 6 0 0)), μ) else (if x1 = (2 : Int32) then some (some (vI (μ.1 6 0 1)), μ) else (if x1 = (3 : Int32) then some (some (vI (μ.1 6 0 2)), μ) else (if x1 = (4 : Int32) then some (some (vI (μ.1 6 0 6)), μ) else (if x1 = (5 : Int32) then some (some (vI (μ.1 6 0 4)), μ) else (if x1 = (6 : Int32) then some (some (vI (μ.1 6 0 3)), μ) else (if x1 = (7 : Int32) then some (some (vI (μ.1 3 0 4)), μ) else (if x1 = (8 : Int32) then some (some (vI (μ.1 2 0 2)), μ) else (if x1 = (9 : Int32) then some (some (vI (μ.1 2 1 2)), μ) else (if x1 = (10 : Int32) then some (some (vI (μ.1 4 0 1)), μ) else (if x1 = (11 : Int32) then some (some (vI (μ.1 7 0 1)), μ) else (if x1 = (12 : Int32) then some (some (vI (μ.1 5 0 0)), μ) else (if x1 = (13 : Int32) then some (some (vI (μ.1 5 0 1)), μ) else some (some (vI (-100 : Int32)), μ))))))))))))))) := by exact (hs_ev_go hp_H_count [] 63 0 _ [] μ).trans rfl
noncomputable def he_H_row_27 (d : Nat)  (μ : hs_M) : Option (Option hs_V × hs_M) := hs_ev d 157 27 [none, none] [] μ
theorem hp_H_row : hs_prog 157 = (hs_k157, 2, 2) := rfl
set_option maxRecDepth 100000 in
theorem hq_H_row (d : Nat) (x1 : Int32) (μ : hs_M)  : hc_H_row (d + 1) x1 μ =
  (if x1 < 0 then he_H_row_27 d μ else (if x1 < (μ.1 4 0 1) then (if x1 < (16 : Int32) then (if hs_in x1 16 then some (some (vL (μ.2 14 0 (x1.toNatClampNeg))), μ) else none) else he_H_row_27 d μ) else he_H_row_27 d μ)) := by exact (hs_ev_go hp_H_row [27] 26 0 _ [] μ).trans rfl
set_option maxRecDepth 100000 in
theorem hq_H_row_27 (d : Nat)  (μ : hs_M)  : he_H_row_27 d  μ =
  some (none, μ) := by exact (hs_ev_go hp_H_row [27] 26 27 _ [] μ).trans rfl
noncomputable def he_H_isThere_26 (d : Nat)  (μ : hs_M) : Option (Option hs_V × hs_M) := hs_ev d 158 26 [none, none] [] μ
theorem hp_H_isThere : hs_prog 158 = (hs_k158, 2, 3) := rfl
set_option maxRecDepth 100000 in
theorem hq_H_isThere (d : Nat) (x1 : Int32) (μ : hs_M)  : hc_H_isThere (d + 1) x1 μ =
  hs_bI (hc_Town_has d x1 μ) (fun r1 μ1 => (if r1 = 0 then he_H_isThere_26 d μ1 else hs_bI (hc_State_lives d 0 x1 μ1) (fun r2 μ2 => (if r2 = 0 then he_H_isThere_26 d μ2 else hs_rz (1 : Int32) μ2)))) := by exact (hs_ev_go hp_H_isThere [26] 17 0 _ [] μ).trans rfl
set_option maxRecDepth 100000 in
theorem hq_H_isThere_26 (d : Nat)  (μ : hs_M)  : he_H_isThere_26 d  μ =
  hs_rz (0 : Int32) μ := by exact (hs_ev_go hp_H_isThere [26] 17 26 _ [] μ).trans rfl
noncomputable def he_H_exchange_10 (d : Nat)  (μ : hs_M) : Option (Option hs_V × hs_M) := hs_ev d 159 10 [none, none, none, none] [] μ
theorem hp_H_exchange : hs_prog 159 = (hs_k159, 4, 1) := rfl
set_option maxRecDepth 100000 in
theorem hq_H_exchange (d : Nat) (κ0 : Nat) (x1 : Int32) (x2 : Int32) (μ : hs_M) (hκ0 : κ0 = 24 ∨ κ0 = 15 ∨ κ0 = 16) : hc_H_exchange (d + 1) κ0 x1 x2 μ =
  (if x1 < 0 then he_H_exchange_10 d μ else (if x1 < (8 : Int32) then (if hs_in x1 8 then (if hs_in x1 8 then some (some (vI (μ.1 κ0 0 (x1.toNatClampNeg))), (hs_wI μ κ0 0 (x1.toNatClampNeg) x2)) else none) else none) else he_H_exchange_10 d μ)) := by rcases hκ0 with rfl | rfl | rfl <;> exact (hs_ev_go hp_H_exchange [10] 21 0 _ [] μ).trans rfl
set_option maxRecDepth 100000 in
theorem hq_H_exchange_10 (d : Nat)  (μ : hs_M)  : he_H_exchange_10 d  μ =
  some (some (vI (-1 : Int32)), μ) := by exact (hs_ev_go hp_H_exchange [10] 21 10 _ [] μ).trans rfl
theorem hp_H_inBounds : hs_prog 160 = (hs_k160, 1, 1) := rfl
set_option maxRecDepth 100000 in
theorem hq_H_inBounds (d : Nat) (x0 : Int32) (μ : hs_M)  : hc_H_inBounds (d + 1) x0 μ =
  (if x0 < (1 : Int32) then some (some (vI (1 : Int32)), μ) else (if (999 : Int32) < x0 then some (some (vI (999 : Int32)), μ) else some (some (vI x0), μ))) := by exact (hs_ev_go hp_H_inBounds [] 15 0 _ [] μ).trans rfl
theorem hp_H_asKind : hs_prog 161 = (hs_k161, 2, 1) := rfl
set_option maxRecDepth 100000 in
theorem hq_H_asKind (d : Nat) (x0 : Int32) (x1 : Int32) (μ : hs_M)  : hc_H_asKind (d + 1) x0 x1 μ =
  (if x0 = 0 then some (some (vI (x1.toInt8.toInt32)), μ) else (if x0 = (1 : Int32) then some (some (vI (x1.toInt16.toInt32)), μ) else some (some (vI x1), μ))) := by exact (hs_ev_go hp_H_asKind [] 16 0 _ [] μ).trans rfl
noncomputable def he_H_eat_19 (d : Nat)  (μ : hs_M) : Option (Option hs_V × hs_M) := hs_ev d 162 19 [none, none, none, none] [] μ
theorem hp_H_eat : hs_prog 162 = (hs_k162, 4, 1) := rfl
set_option maxRecDepth 100000 in
theorem hq_H_eat (d : Nat) (x1 : Int32) (x2 : Int32) (x3 : Int32) (μ : hs_M)  : hc_H_eat (d + 1) x1 x2 x3 μ =
  hs_bI (hc_H_isThere d x1 μ) (fun r1 μ1 => (if r1 = 0 then he_H_eat_19 d μ1 else (if x2 < (1 : Int32) then he_H_eat_19 d μ1 else (if (99 : Int32) < x2 then he_H_eat_19 d μ1 else hs_bV (hc_Past_remember d 0 μ1) (fun μ2 => (if hs_in x1 8 then hs_bV (hc_State_putWeight d 0 x1 ((μ2.1 24 0 (x1.toNatClampNeg)) + (x3 * x2)) μ2) (fun μ3 => (if hs_in x1 8 then some (some (vI (μ3.1 24 0 (x1.toNatClampNeg))), μ3) else none)) else none)))))) := by exact (hs_ev_go hp_H_eat [19] 39 0 _ [] μ).trans rfl
set_option maxRecDepth 100000 in
theorem hq_H_eat_19 (d : Nat)  (μ : hs_M)  : he_H_eat_19 d  μ =
  some (some (vI (-1 : Int32)), μ) := by exact (hs_ev_go hp_H_eat [19] 39 19 _ [] μ).trans rfl
theorem hp_H_passWeek : hs_prog 163 = (hs_k163, 5, 1) := rfl
set_option maxRecDepth 100000 in
theorem hq_H_passWeek (d : Nat) (x1 : Int32) (x2 : Int32) (μ : hs_M)  : hc_H_passWeek (d + 1) x1 x2 μ =
  hs_bV (hc_Office_pass d 0 x1 x2 μ) (fun μ1 => (if (μ1.1 6 0 1) = (μ.1 6 0 1) then some (some (vI (-1 : Int32)), μ1) else some (some (vI (μ.1 6 0 5)), μ1))) := by exact (hs_ev_go hp_H_passWeek [] 27 0 _ [] μ).trans rfl
noncomputable def he_H_yearFault_4 (d : Nat) (x1 : Int32) (x2 : Int32) (μ : hs_M) : Option (Option hs_V × hs_M) := hs_ev d 164 4 [some (vR 11 0), some (vI x1), some (vI x2), none] [] μ
noncomputable def he_H_yearFault_57 (d : Nat) (x2 : Int32) (μ : hs_M) : Option (Option hs_V × hs_M) := hs_ev d 164 57 [none, none, some (vI x2), none] [] μ
noncomputable def he_H_yearFault_59 (d : Nat) (x1 : Int32) (x2 : Int32) (μ : hs_M) : Option (Option hs_V × hs_M) := hs_ev d 164 59 [some (vR 11 0), some (vI x1), some (vI x2), none] [] μ
theorem hp_H_yearFault : hs_prog 164 = (hs_k164, 4, 1) := rfl
set_option maxRecDepth 100000 in
theorem hq_H_yearFault (d : Nat)  (μ : hs_M)  : hc_H_yearFault (d + 1)  μ =
  he_H_yearFault_4 d (0 : Int32) (0 : Int32) μ := by exact (hs_ev_go hp_H_yearFault [4, 57, 59] 52 0 _ [] μ).trans rfl
set_option maxRecDepth 100000 in
theorem hq_H_yearFault_4 (d : Nat) (x1 : Int32) (x2 : Int32) (μ : hs_M)  : he_H_yearFault_4 d x1 x2 μ =
  (if x2 < (μ.1 7 0 2) then hs_bI (hc_Text_signAt d x2 μ) (fun r1 μ1 => (if r1 = (59 : Int32) then he_H_yearFault_59 d (0 : Int32) x2 μ1 else (if r1 < (97 : Int32) then he_H_yearFault_57 d x2 μ1 else (if (104 : Int32) < r1 then he_H_yearFault_57 d x2 μ1 else (if x1 < r1 then he_H_yearFault_59 d r1 x2 μ1 else he_H_yearFault_57 d x2 μ1))))) else (if (μ.1 7 0 2) < (μ.1 7 0 1) then some (some (vI (μ.1 7 0 2)), μ) else some (some (vI (-1 : Int32)), μ))) := by exact (hs_ev_go hp_H_yearFault [4, 57, 59] 52 4 _ [] μ).trans rfl
set_option maxRecDepth 100000 in
theorem hq_H_yearFault_57 (d : Nat) (x2 : Int32) (μ : hs_M)  : he_H_yearFault_57 d x2 μ =
  some (some (vI x2), μ) := by exact (hs_ev_go hp_H_yearFault [4, 57, 59] 52 57 _ [] μ).trans rfl
set_option maxRecDepth 100000 in
theorem hq_H_yearFault_59 (d : Nat) (x1 : Int32) (x2 : Int32) (μ : hs_M)  : he_H_yearFault_59 d x1 x2 μ =
  he_H_yearFault_4 d x1 (x2 + (1 : Int32)) μ := by exact (hs_ev_go hp_H_yearFault [4, 57, 59] 52 59 _ [] μ).trans rfl
noncomputable def he_H_passYear_34 (d : Nat) (x1 : Int32) (x2 : Int32) (x3 : Int32) (x4 : Int32) (x5 : Int32) (μ : hs_M) : Option (Option hs_V × hs_M) := hs_ev d 165 34 [some (vR 11 0), some (vI x1), some (vI x2), some (vI x3), some (vI x4), some (vI x5), none] [] μ
noncomputable def he_H_passYear_83 (d : Nat) (x1 : Int32) (x2 : Int32) (x3 : Int32) (x4 : Int32) (x5 : Int32) (μ : hs_M) : Option (Option hs_V × hs_M) := hs_ev d 165 83 [some (vR 11 0), some (vI x1), some (vI x2), some (vI x3), some (vI x4), some (vI x5), none] [] μ
noncomputable def he_H_passYear_117 (d : Nat) (x1 : Int32) (x2 : Int32) (x3 : Int32) (x4 : Int32) (x5 : Int32) (μ : hs_M) : Option (Option hs_V × hs_M) := hs_ev d 165 117 [some (vR 11 0), some (vI x1), some (vI x2), some (vI x3), some (vI x4), some (vI x5), none] [] μ
noncomputable def he_H_passYear_135 (d : Nat) (x1 : Int32) (x3 : Int32) (μ : hs_M) : Option (Option hs_V × hs_M) := hs_ev d 165 135 [some (vR 11 0), some (vI x1), none, some (vI x3), none, none, none] [] μ
theorem hp_H_passYear : hs_prog 165 = (hs_k165, 7, 1) := rfl
set_option maxRecDepth 100000 in
theorem hq_H_passYear (d : Nat)  (μ : hs_M)  : hc_H_passYear (d + 1)  μ =
  (if (μ.1 7 0 2) = 0 then he_H_passYear_34 d (0 : Int32) (0 : Int32) (0 : Int32) (0 : Int32) (0 : Int32) μ else he_H_passYear_34 d (0 : Int32) (0 : Int32) (0 : Int32) ((μ.1 7 0 2) + (1 : Int32)) (0 : Int32) μ) := by exact (hs_ev_go hp_H_passYear [34, 83, 117, 135] 90 0 _ [] μ).trans rfl
set_option maxRecDepth 100000 in
theorem hq_H_passYear_34 (d : Nat) (x1 : Int32) (x2 : Int32) (x3 : Int32) (x4 : Int32) (x5 : Int32) (μ : hs_M)  : he_H_passYear_34 d x1 x2 x3 x4 x5 μ =
  (if x5 < x4 then (if x3 = 0 then hs_bI (hc_Text_signAt d x5 μ) (fun r1 μ1 => (if r1 < (97 : Int32) then he_H_passYear_83 d x1 x2 x3 x4 x5 μ1 else (if (104 : Int32) < r1 then he_H_passYear_83 d x1 x2 x3 x4 x5 μ1 else he_H_passYear_34 d x1 (x2 ||| ((1 : Int32) <<< ((r1 - (97 : Int32)) &&& 31))) x3 x4 (x5 + (1 : Int32)) μ1))) else he_H_passYear_135 d x1 x3 μ) else he_H_passYear_135 d x1 x3 μ) := by exact (hs_ev_go hp_H_passYear [34, 83, 117, 135] 90 34 _ [] μ).trans rfl
set_option maxRecDepth 100000 in
theorem hq_H_passYear_83 (d : Nat) (x1 : Int32) (x2 : Int32) (x3 : Int32) (x4 : Int32) (x5 : Int32) (μ : hs_M)  : he_H_passYear_83 d x1 x2 x3 x4 x5 μ =
  hs_bI (hc_Town_everyone d μ) (fun r1 μ1 => (if (x2 &&& (r1 ^^^ (-1 : Int32))) = 0 then (if x1 = 0 then hs_bV (hc_Past_remember d 0 μ1) (fun μ2 => he_H_passYear_117 d x1 x2 x3 x4 x5 μ2) else he_H_passYear_117 d x1 x2 x3 x4 x5 μ1) else he_H_passYear_34 d x1 x2 (1 : Int32) x4 (x5 + (1 : Int32)) μ1)) := by exact (hs_ev_go hp_H_passYear [34, 83, 117, 135] 90 83 _ [] μ).trans rfl
set_option maxRecDepth 100000 in
theorem hq_H_passYear_117 (d : Nat) (x1 : Int32) (x2 : Int32) (x3 : Int32) (x4 : Int32) (x5 : Int32) (μ : hs_M)  : he_H_passYear_117 d x1 x2 x3 x4 x5 μ =
  hs_bI (hc_H_passWeek d x2 (0 : Int32) μ) (fun r1 μ1 => he_H_passYear_34 d (x1 + (1 : Int32)) (0 : Int32) x3 x4 (x5 + (1 : Int32)) μ1) := by exact (hs_ev_go hp_H_passYear [34, 83, 117, 135] 90 117 _ [] μ).trans rfl
set_option maxRecDepth 100000 in
theorem hq_H_passYear_135 (d : Nat) (x1 : Int32) (x3 : Int32) (μ : hs_M)  : he_H_passYear_135 d x1 x3 μ =
  hs_bV (hc_Row_begin d ((μ.1 6 0 1).toInt64) μ) (fun μ1 => hs_bV (hc_Row_add d (x3.toInt64) μ1) (fun μ2 => some (some (vI x1), μ2))) := by exact (hs_ev_go hp_H_passYear [34, 83, 117, 135] 90 135 _ [] μ).trans rfl
theorem hp_M_thrown : hs_prog 166 = (hs_k166, 1, 1) := rfl
set_option maxRecDepth 100000 in
theorem hq_M_thrown (d : Nat)  (μ : hs_M)  : hc_M_thrown (d + 1)  μ =
  some (some (vI (μ.1 12 0 0)), μ) := by exact (hs_ev_go hp_M_thrown [] 6 0 _ [] μ).trans rfl
theorem hp_M_refuse : hs_prog 167 = (hs_k167, 1, 1) := rfl
set_option maxRecDepth 100000 in
theorem hq_M_refuse (d : Nat)  (μ : hs_M)  : hc_M_refuse (d + 1)  μ =
  some (some (vI (0 : Int32)), (hs_wI μ 12 0 0 (1 : Int32))) := by exact (hs_ev_go hp_M_refuse [] 8 0 _ [] μ).trans rfl
noncomputable def he_M_in_17 (d : Nat)  (μ : hs_M) : Option (Option hs_V × hs_M) := hs_ev d 168 17 [none, none, none, none, none, none] [] μ
theorem hp_M_in : hs_prog 168 = (hs_k168, 6, 3) := rfl
set_option maxRecDepth 100000 in
theorem hq_M_in (d : Nat) (x0 : Int64) (x2 : Int64) (x4 : Int64) (μ : hs_M)  : hc_M_in (d + 1) x0 x2 x4 μ =
  (if (lg_cmp x0 x2) < 0 then he_M_in_17 d μ else (if 0 < (lg_cmp x0 x4) then he_M_in_17 d μ else hs_rz (1 : Int32) μ)) := by exact (hs_ev_go hp_M_in [17] 15 0 _ [] μ).trans rfl
set_option maxRecDepth 100000 in
theorem hq_M_in_17 (d : Nat)  (μ : hs_M)  : he_M_in_17 d  μ =
  hs_rz (0 : Int32) μ := by exact (hs_ev_go hp_M_in [17] 15 17 _ [] μ).trans rfl
theorem hp_M_has : hs_prog 169 = (hs_k169, 2, 3) := rfl
set_option maxRecDepth 100000 in
theorem hq_M_has (d : Nat) (x0 : Int32) (x1 : Int32) (μ : hs_M)  : hc_M_has (d + 1) x0 x1 μ =
  (if ((x0 >>> (x1 &&& 31)) &&& (1 : Int32)) = (1 : Int32) then hs_rz (1 : Int32) μ else hs_rz (0 : Int32) μ) := by exact (hs_ev_go hp_M_has [] 14 0 _ [] μ).trans rfl
theorem hp_M_flag : hs_prog 170 = (hs_k170, 1, 1) := rfl
set_option maxRecDepth 100000 in
theorem hq_M_flag (d : Nat) (x0 : Int32) (μ : hs_M)  : hc_M_flag (d + 1) x0 μ =
  (if x0 = 0 then some (some (vI (0 : Int32)), μ) else some (some (vI (1 : Int32)), μ)) := by exact (hs_ev_go hp_M_flag [] 9 0 _ [] μ).trans rfl
theorem hp_M_common : hs_prog 171 = (hs_k171, 4, 2) := rfl
set_option maxRecDepth 100000 in
theorem hq_M_common (d : Nat) (x0 : Int64) (x2 : Int64) (μ : hs_M)  : hc_M_common (d + 1) x0 x2 μ =
  (if (lg_cmp x2 (0 : Int64)) = 0 then some (some (vL x0), μ) else (if x2 = 0 then none else hs_bL (hc_M_common d x2 (x0 - x0 / x2 * x2) μ) (fun r1 μ1 => some (some (vL r1), μ1)))) := by exact (hs_ev_go hp_M_common [] 15 0 _ [] μ).trans rfl
theorem hp_M_enters : hs_prog 172 = (hs_k172, 3, 0) := rfl
set_option maxRecDepth 100000 in
theorem hq_M_enters (d : Nat) (x1 : Int64) (μ : hs_M)  : hc_M_enters (d + 1) x1 μ =
  (if hs_in (μ.1 12 0 1) 24 then some (none, (hs_wI (hs_wL μ 40 0 ((μ.1 12 0 1).toNatClampNeg) x1) 12 0 1 ((μ.1 12 0 1) + (1 : Int32)))) else none) := by exact (hs_ev_go hp_M_enters [] 16 0 _ [] μ).trans rfl
theorem hp_M_entersFraction : hs_prog 173 = (hs_k173, 7, 0) := rfl
set_option maxRecDepth 100000 in
theorem hq_M_entersFraction (d : Nat) (x1 : Int64) (x3 : Int64) (μ : hs_M)  : hc_M_entersFraction (d + 1) x1 x3 μ =
  hs_bL (hc_M_common d x1 x3 μ) (fun r1 μ1 => (if r1 = 0 then none else hs_bV (hc_M_enters d (x1 / r1) μ1) (fun μ2 => (if r1 = 0 then none else hs_bV (hc_M_enters d (x3 / r1) μ2) (fun μ3 => some (none, μ3)))))) := by exact (hs_ev_go hp_M_entersFraction [] 18 0 _ [] μ).trans rfl
theorem hp_M_isPerson : hs_prog 174 = (hs_k174, 2, 3) := rfl
set_option maxRecDepth 100000 in
theorem hq_M_isPerson (d : Nat) (x1 : Int32) (μ : hs_M)  : hc_M_isPerson (d + 1) x1 μ =
  hs_bI (hc_M_in d (x1.toInt64) (0 : Int64) (((μ.1 12 0 3) - (1 : Int32)).toInt64) μ) (fun r1 μ1 => hs_rz r1 μ1) := by exact (hs_ev_go hp_M_isPerson [] 13 0 _ [] μ).trans rfl
noncomputable def he_M_isAlive_26 (d : Nat)  (μ : hs_M) : Option (Option hs_V × hs_M) := hs_ev d 175 26 [none, none] [] μ
theorem hp_M_isAlive : hs_prog 175 = (hs_k175, 2, 3) := rfl
set_option maxRecDepth 100000 in
theorem hq_M_isAlive (d : Nat) (x1 : Int32) (μ : hs_M)  : hc_M_isAlive (d + 1) x1 μ =
  hs_bI (hc_M_isPerson d x1 μ) (fun r1 μ1 => (if r1 = 0 then he_M_isAlive_26 d μ1 else hs_bI (hc_M_has d (μ1.1 45 0 16) x1 μ1) (fun r2 μ2 => (if r2 = 0 then he_M_isAlive_26 d μ2 else hs_rz (1 : Int32) μ2)))) := by exact (hs_ev_go hp_M_isAlive [26] 18 0 _ [] μ).trans rfl
set_option maxRecDepth 100000 in
theorem hq_M_isAlive_26 (d : Nat)  (μ : hs_M)  : he_M_isAlive_26 d  μ =
  hs_rz (0 : Int32) μ := by exact (hs_ev_go hp_M_isAlive [26] 18 26 _ [] μ).trans rfl
noncomputable def he_M_sign_18 (d : Nat) (x1 : Int32) (x2 : Int32) (μ : hs_M) : Option (Option hs_V × hs_M) := hs_ev d 176 18 [some (vR 12 0), some (vI x1), some (vI x2)] [] μ
theorem hp_M_sign : hs_prog 176 = (hs_k176, 3, 1) := rfl
set_option maxRecDepth 100000 in
theorem hq_M_sign (d : Nat) (x1 : Int32) (μ : hs_M)  : hc_M_sign (d + 1) x1 μ =
  (if (76 : Int32) < (μ.1 12 0 13) then some (some (vI (-1 : Int32)), (hs_wI μ 12 0 0 (0 : Int32))) else he_M_sign_18 d x1 (0 : Int32) (hs_wI μ 12 0 0 (0 : Int32))) := by exact (hs_ev_go hp_M_sign [18] 44 0 _ [] μ).trans rfl
set_option maxRecDepth 100000 in
theorem hq_M_sign_18 (d : Nat) (x1 : Int32) (x2 : Int32) (μ : hs_M)  : he_M_sign_18 d x1 x2 μ =
  (if x2 < (4 : Int32) then (if hs_in ((μ.1 12 0 13) + x2) 80 then he_M_sign_18 d x1 (x2 + (1 : Int32)) (hs_wI μ 47 0 (((μ.1 12 0 13) + x2).toNatClampNeg) ((x1 >>> (((24 : Int32) - ((8 : Int32) * x2)) &&& 31)) &&& (255 : Int32))) else none) else some (some (vI ((μ.1 12 0 13) + (4 : Int32))), (hs_wI μ 12 0 13 ((μ.1 12 0 13) + (4 : Int32))))) := by exact (hs_ev_go hp_M_sign [18] 44 18 _ [] μ).trans rfl
theorem hp_M_end : hs_prog 177 = (hs_k177, 2, 3) := rfl
set_option maxRecDepth 100000 in
theorem hq_M_end (d : Nat) (x1 : Int32) (μ : hs_M)  : hc_M_end (d + 1) x1 μ =
  hs_bI (hc_M_in d (x1.toInt64) (0 : Int64) ((μ.1 12 0 13).toInt64) (hs_wI μ 12 0 0 (0 : Int32))) (fun r1 μ1 => (if r1 = 0 then hs_rz (0 : Int32) μ1 else hs_rz (1 : Int32) (hs_wI μ1 12 0 13 x1))) := by exact (hs_ev_go hp_M_end [] 21 0 _ [] μ).trans rfl
theorem hp_M_begins : hs_prog 178 = (hs_k178, 3, 1) := rfl
set_option maxRecDepth 100000 in
theorem hq_M_begins (d : Nat) (x1 : Int32) (μ : hs_M)  : hc_M_begins (d + 1) x1 μ =
  hs_bI (hc_Math_min d (μ.1 12 0 13) x1 (hs_wI (hs_wI (hs_wI μ 12 0 13 (0 : Int32)) 12 0 14 (0 : Int32)) 12 0 16 (0 : Int32))) (fun r1 μ1 => some (some (vI (μ.1 12 0 13)), (hs_wI μ1 12 0 15 r1))) := by exact (hs_ev_go hp_M_begins [] 22 0 _ [] μ).trans rfl
noncomputable def he_M_takes_28 (d : Nat)  (μ : hs_M) : Option (Option hs_V × hs_M) := hs_ev d 179 28 [some (vR 12 0), none, none] [] μ
theorem hp_M_takes : hs_prog 179 = (hs_k179, 3, 3) := rfl
set_option maxRecDepth 100000 in
theorem hq_M_takes (d : Nat) (x1 : Int32) (μ : hs_M)  : hc_M_takes (d + 1) x1 μ =
  (if (μ.1 12 0 14) < (μ.1 12 0 15) then (if hs_in (μ.1 12 0 14) 80 then (if (μ.1 47 0 ((μ.1 12 0 14).toNatClampNeg)) = x1 then hs_bI (hc_M_flag d (1 : Int32) μ) (fun r1 μ1 => hs_rz (1 : Int32) (hs_wI μ1 12 0 14 ((μ.1 12 0 14) + r1))) else he_M_takes_28 d μ) else none) else he_M_takes_28 d μ) := by exact (hs_ev_go hp_M_takes [28] 28 0 _ [] μ).trans rfl
set_option maxRecDepth 100000 in
theorem hq_M_takes_28 (d : Nat)  (μ : hs_M)  : he_M_takes_28 d  μ =
  hs_bI (hc_M_flag d (0 : Int32) μ) (fun r1 μ1 => hs_rz (0 : Int32) (hs_wI μ1 12 0 14 ((μ.1 12 0 14) + r1))) := by exact (hs_ev_go hp_M_takes [28] 28 28 _ [] μ).trans rfl
noncomputable def he_M_isDigit_37 (d : Nat)  (μ : hs_M) : Option (Option hs_V × hs_M) := hs_ev d 180 37 [none] [] μ
theorem hp_M_isDigit : hs_prog 180 = (hs_k180, 1, 3) := rfl
set_option maxRecDepth 100000 in
theorem hq_M_isDigit (d : Nat)  (μ : hs_M)  : hc_M_isDigit (d + 1)  μ =
  (if (μ.1 12 0 14) < (μ.1 12 0 15) then (if hs_in (μ.1 12 0 14) 80 then hs_bI (hc_M_in d ((μ.1 47 0 ((μ.1 12 0 14).toNatClampNeg)).toInt64) (48 : Int64) (57 : Int64) μ) (fun r1 μ1 => (if r1 = 0 then he_M_isDigit_37 d μ1 else hs_rz (1 : Int32) μ1)) else none) else he_M_isDigit_37 d μ) := by exact (hs_ev_go hp_M_isDigit [37] 22 0 _ [] μ).trans rfl
set_option maxRecDepth 100000 in
theorem hq_M_isDigit_37 (d : Nat)  (μ : hs_M)  : he_M_isDigit_37 d  μ =
  hs_rz (0 : Int32) μ := by exact (hs_ev_go hp_M_isDigit [37] 22 37 _ [] μ).trans rfl
noncomputable def he_M_number_4 (d : Nat) (x1 : Int32) (x2 : Int32) (x3 : Int32) (μ : hs_M) : Option (Option hs_V × hs_M) := hs_ev d 181 4 [some (vR 12 0), some (vI x1), some (vI x2), some (vI x3)] [] μ
noncomputable def he_M_number_50 (d : Nat) (x2 : Int32) (μ : hs_M) : Option (Option hs_V × hs_M) := hs_ev d 181 50 [none, none, some (vI x2), none] [] μ
theorem hp_M_number : hs_prog 181 = (hs_k181, 4, 1) := rfl
set_option maxRecDepth 100000 in
theorem hq_M_number (d : Nat) (x1 : Int32) (μ : hs_M)  : hc_M_number (d + 1) x1 μ =
  he_M_number_4 d x1 (0 : Int32) (0 : Int32) μ := by exact (hs_ev_go hp_M_number [4, 50] 35 0 _ [] μ).trans rfl
set_option maxRecDepth 100000 in
theorem hq_M_number_4 (d : Nat) (x1 : Int32) (x2 : Int32) (x3 : Int32) (μ : hs_M)  : he_M_number_4 d x1 x2 x3 μ =
  (if x3 < x1 then hs_bI (hc_M_isDigit d μ) (fun r1 μ1 => (if r1 = 0 then he_M_number_50 d x2 μ1 else (if hs_in (μ1.1 12 0 14) 80 then he_M_number_4 d x1 ((((10 : Int32) * x2) + (μ1.1 47 0 ((μ1.1 12 0 14).toNatClampNeg))) - (48 : Int32)) (x3 + (1 : Int32)) (hs_wI μ1 12 0 14 ((μ1.1 12 0 14) + (1 : Int32))) else none))) else he_M_number_50 d x2 μ) := by exact (hs_ev_go hp_M_number [4, 50] 35 4 _ [] μ).trans rfl
set_option maxRecDepth 100000 in
theorem hq_M_number_50 (d : Nat) (x2 : Int32) (μ : hs_M)  : he_M_number_50 d x2 μ =
  some (some (vI x2), μ) := by exact (hs_ev_go hp_M_number [4, 50] 35 50 _ [] μ).trans rfl
noncomputable def he_M_among_2 (d : Nat) (j1 : Nat) (x2 : Int32) (μ : hs_M) : Option (Option hs_V × hs_M) := hs_ev d 182 2 [some (vR 12 0), some (vR 90 j1), some (vI x2)] [] μ
noncomputable def he_M_among_46 (d : Nat)  (μ : hs_M) : Option (Option hs_V × hs_M) := hs_ev d 182 46 [none, none, none] [] μ
theorem hp_M_among : hs_prog 182 = (hs_k182, 3, 1) := rfl
set_option maxRecDepth 100000 in
theorem hq_M_among_0_0 (d : Nat)  (μ : hs_M)  : hc_M_among (d + 1) 0 μ =
  he_M_among_2 d 0 (0 : Int32) μ := by exact (hs_ev_go hp_M_among [2, 46] 29 0 _ [] μ).trans rfl
set_option maxRecDepth 100000 in
theorem hq_M_among_2_0 (d : Nat) (x2 : Int32) (μ : hs_M)  : he_M_among_2 d 0 x2 μ =
  (if x2 < (2 : Int32) then (if (μ.1 12 0 14) < (μ.1 12 0 15) then (if hs_in x2 2 then (if hs_in (μ.1 12 0 14) 80 then (if (Int32.ofNat ([43, 45].getD x2.toNatClampNeg 0)) = (μ.1 47 0 ((μ.1 12 0 14).toNatClampNeg)) then some (some (vI x2), μ) else he_M_among_2 d 0 (x2 + (1 : Int32)) μ) else none) else none) else he_M_among_46 d μ) else he_M_among_46 d μ) := by exact (hs_ev_go hp_M_among [2, 46] 29 2 _ [] μ).trans rfl
set_option maxRecDepth 100000 in
theorem hq_M_among_46_0 (d : Nat)  (μ : hs_M)  : he_M_among_46 d  μ =
  some (some (vI (-1 : Int32)), μ) := by exact (hs_ev_go hp_M_among [2, 46] 29 46 _ [] μ).trans rfl
set_option maxRecDepth 100000 in
theorem hq_M_among_0_1 (d : Nat)  (μ : hs_M)  : hc_M_among (d + 1) 1 μ =
  he_M_among_2 d 1 (0 : Int32) μ := by exact (hs_ev_go hp_M_among [2, 46] 29 0 _ [] μ).trans rfl
set_option maxRecDepth 100000 in
theorem hq_M_among_2_1 (d : Nat) (x2 : Int32) (μ : hs_M)  : he_M_among_2 d 1 x2 μ =
  (if x2 < (4 : Int32) then (if (μ.1 12 0 14) < (μ.1 12 0 15) then (if hs_in x2 4 then (if hs_in (μ.1 12 0 14) 80 then (if (Int32.ofNat ([48, 49, 50, 51].getD x2.toNatClampNeg 0)) = (μ.1 47 0 ((μ.1 12 0 14).toNatClampNeg)) then some (some (vI x2), μ) else he_M_among_2 d 1 (x2 + (1 : Int32)) μ) else none) else none) else he_M_among_46 d μ) else he_M_among_46 d μ) := by exact (hs_ev_go hp_M_among [2, 46] 29 2 _ [] μ).trans rfl
set_option maxRecDepth 100000 in
theorem hq_M_among_46_1 (d : Nat)  (μ : hs_M)  : he_M_among_46 d  μ =
  some (some (vI (-1 : Int32)), μ) := by exact (hs_ev_go hp_M_among [2, 46] 29 46 _ [] μ).trans rfl
set_option maxRecDepth 100000 in
theorem hq_M_among_0_2 (d : Nat)  (μ : hs_M)  : hc_M_among (d + 1) 2 μ =
  he_M_among_2 d 2 (0 : Int32) μ := by exact (hs_ev_go hp_M_among [2, 46] 29 0 _ [] μ).trans rfl
set_option maxRecDepth 100000 in
theorem hq_M_among_2_2 (d : Nat) (x2 : Int32) (μ : hs_M)  : he_M_among_2 d 2 x2 μ =
  (if x2 < (9 : Int32) then (if (μ.1 12 0 14) < (μ.1 12 0 15) then (if hs_in x2 9 then (if hs_in (μ.1 12 0 14) 80 then (if (Int32.ofNat ([105, 119, 112, 118, 113, 115, 116, 111, 110].getD x2.toNatClampNeg 0)) = (μ.1 47 0 ((μ.1 12 0 14).toNatClampNeg)) then some (some (vI x2), μ) else he_M_among_2 d 2 (x2 + (1 : Int32)) μ) else none) else none) else he_M_among_46 d μ) else he_M_among_46 d μ) := by exact (hs_ev_go hp_M_among [2, 46] 29 2 _ [] μ).trans rfl
set_option maxRecDepth 100000 in
theorem hq_M_among_46_2 (d : Nat)  (μ : hs_M)  : he_M_among_46 d  μ =
  some (some (vI (-1 : Int32)), μ) := by exact (hs_ev_go hp_M_among [2, 46] 29 46 _ [] μ).trans rfl
set_option maxRecDepth 100000 in
theorem hq_M_among_0_3 (d : Nat)  (μ : hs_M)  : hc_M_among (d + 1) 3 μ =
  he_M_among_2 d 3 (0 : Int32) μ := by exact (hs_ev_go hp_M_among [2, 46] 29 0 _ [] μ).trans rfl
set_option maxRecDepth 100000 in
theorem hq_M_among_2_3 (d : Nat) (x2 : Int32) (μ : hs_M)  : he_M_among_2 d 3 x2 μ =
  (if x2 < (3 : Int32) then (if (μ.1 12 0 14) < (μ.1 12 0 15) then (if hs_in x2 3 then (if hs_in (μ.1 12 0 14) 80 then (if (Int32.ofNat ([60, 62, 61].getD x2.toNatClampNeg 0)) = (μ.1 47 0 ((μ.1 12 0 14).toNatClampNeg)) then some (some (vI x2), μ) else he_M_among_2 d 3 (x2 + (1 : Int32)) μ) else none) else none) else he_M_among_46 d μ) else he_M_among_46 d μ) := by exact (hs_ev_go hp_M_among [2, 46] 29 2 _ [] μ).trans rfl
set_option maxRecDepth 100000 in
theorem hq_M_among_46_3 (d : Nat)  (μ : hs_M)  : he_M_among_46 d  μ =
  some (some (vI (-1 : Int32)), μ) := by exact (hs_ev_go hp_M_among [2, 46] 29 46 _ [] μ).trans rfl
set_option maxRecDepth 100000 in
theorem hq_M_among_0_4 (d : Nat)  (μ : hs_M)  : hc_M_among (d + 1) 4 μ =
  he_M_among_2 d 4 (0 : Int32) μ := by exact (hs_ev_go hp_M_among [2, 46] 29 0 _ [] μ).trans rfl
set_option maxRecDepth 100000 in
theorem hq_M_among_2_4 (d : Nat) (x2 : Int32) (μ : hs_M)  : he_M_among_2 d 4 x2 μ =
  (if x2 < (2 : Int32) then (if (μ.1 12 0 14) < (μ.1 12 0 15) then (if hs_in x2 2 then (if hs_in (μ.1 12 0 14) 80 then (if (Int32.ofNat ([42, 47].getD x2.toNatClampNeg 0)) = (μ.1 47 0 ((μ.1 12 0 14).toNatClampNeg)) then some (some (vI x2), μ) else he_M_among_2 d 4 (x2 + (1 : Int32)) μ) else none) else none) else he_M_among_46 d μ) else he_M_among_46 d μ) := by exact (hs_ev_go hp_M_among [2, 46] 29 2 _ [] μ).trans rfl
set_option maxRecDepth 100000 in
theorem hq_M_among_46_4 (d : Nat)  (μ : hs_M)  : he_M_among_46 d  μ =
  some (some (vI (-1 : Int32)), μ) := by exact (hs_ev_go hp_M_among [2, 46] 29 46 _ [] μ).trans rfl
noncomputable def he_M_faultOf_19 (d : Nat) (x1 : Int32) (x2 : Int32) (μ : hs_M) : Option (Option hs_V × hs_M) := hs_ev d 183 19 [some (vR 12 0), some (vI x1), some (vI x2), none, none] [] μ
noncomputable def he_M_faultOf_40 (d : Nat) (x2 : Int32) (μ : hs_M) : Option (Option hs_V × hs_M) := hs_ev d 183 40 [none, none, some (vI x2), none, none] [] μ
noncomputable def he_M_faultOf_44 (d : Nat) (x4 : Int32) (μ : hs_M) : Option (Option hs_V × hs_M) := hs_ev d 183 44 [some (vR 12 0), none, none, none, some (vI x4)] [] μ
theorem hp_M_faultOf : hs_prog 183 = (hs_k183, 5, 1) := rfl
set_option maxRecDepth 100000 in
theorem hq_M_faultOf (d : Nat) (x1 : Int32) (x2 : Int32) (x3 : Int32) (μ : hs_M)  : hc_M_faultOf (d + 1) x1 x2 x3 μ =
  (if x3 = 0 then he_M_faultOf_19 d x1 x2 μ else (if (μ.1 12 0 14) = (μ.1 12 0 15) then (if x2 < x1 then he_M_faultOf_40 d x2 μ else he_M_faultOf_44 d (1 : Int32) μ) else he_M_faultOf_19 d x1 x2 μ)) := by exact (hs_ev_go hp_M_faultOf [19, 40, 44] 36 0 _ [] μ).trans rfl
set_option maxRecDepth 100000 in
theorem hq_M_faultOf_19 (d : Nat) (x1 : Int32) (x2 : Int32) (μ : hs_M)  : he_M_faultOf_19 d x1 x2 μ =
  (if x2 < x1 then (if (μ.1 12 0 14) < x2 then he_M_faultOf_44 d (0 : Int32) μ else he_M_faultOf_40 d x2 μ) else he_M_faultOf_44 d (0 : Int32) μ) := by exact (hs_ev_go hp_M_faultOf [19, 40, 44] 36 19 _ [] μ).trans rfl
set_option maxRecDepth 100000 in
theorem hq_M_faultOf_40 (d : Nat) (x2 : Int32) (μ : hs_M)  : he_M_faultOf_40 d x2 μ =
  some (some (vI ((-1 : Int32) - x2)), μ) := by exact (hs_ev_go hp_M_faultOf [19, 40, 44] 36 40 _ [] μ).trans rfl
set_option maxRecDepth 100000 in
theorem hq_M_faultOf_44 (d : Nat) (x4 : Int32) (μ : hs_M)  : he_M_faultOf_44 d x4 μ =
  (if x4 = 0 then some (some (vI ((-1 : Int32) - (μ.1 12 0 14))), μ) else some (some (vI (0 : Int32)), μ)) := by exact (hs_ev_go hp_M_faultOf [19, 40, 44] 36 44 _ [] μ).trans rfl
noncomputable def he_M_readsHabit_2 (d : Nat) (x1 : Int32) (x2 : Int32) (μ : hs_M) : Option (Option hs_V × hs_M) := hs_ev d 184 2 [some (vR 12 0), some (vI x1), some (vI x2), none] [] μ
noncomputable def he_M_readsHabit_86 (d : Nat) (x1 : Int32) (x2 : Int32) (μ : hs_M) : Option (Option hs_V × hs_M) := hs_ev d 184 86 [some (vR 12 0), some (vI x1), some (vI x2), none] [] μ
theorem hp_M_readsHabit : hs_prog 184 = (hs_k184, 4, 3) := rfl
set_option maxRecDepth 100000 in
theorem hq_M_readsHabit (d : Nat) (x1 : Int32) (μ : hs_M)  : hc_M_readsHabit (d + 1) x1 μ =
  he_M_readsHabit_2 d x1 (0 : Int32) μ := by exact (hs_ev_go hp_M_readsHabit [2, 86] 58 0 _ [] μ).trans rfl
set_option maxRecDepth 100000 in
theorem hq_M_readsHabit_2 (d : Nat) (x1 : Int32) (x2 : Int32) (μ : hs_M)  : he_M_readsHabit_2 d x1 x2 μ =
  (if x2 < (6 : Int32) then hs_bI (hc_M_among d 0 μ) (fun r1 μ1 => (if r1 < 0 then he_M_readsHabit_86 d x1 x2 μ1 else hs_bI (hc_M_takes d (43 : Int32) μ1) (fun r2 μ2 => (if r2 = 0 then hs_bI (hc_M_flag d (1 : Int32) μ2) (fun r3 μ3 => hs_bI (hc_M_isDigit d (hs_wI μ3 12 0 14 ((μ2.1 12 0 14) + r3))) (fun r4 μ4 => (if r4 = 0 then hs_rz (0 : Int32) μ4 else hs_bI (hc_M_number d (1 : Int32) μ4) (fun r5 μ5 => (if hs_in (((6 : Int32) * x1) + x2) 54 then he_M_readsHabit_2 d x1 (x2 + (1 : Int32)) (hs_wI μ5 50 0 ((((6 : Int32) * x1) + x2).toNatClampNeg) ((-1 : Int32) * r5)) else none))))) else hs_bI (hc_M_flag d (0 : Int32) μ2) (fun r6 μ6 => hs_bI (hc_M_isDigit d (hs_wI μ6 12 0 14 ((μ2.1 12 0 14) + r6))) (fun r7 μ7 => (if r7 = 0 then hs_rz (0 : Int32) μ7 else hs_bI (hc_M_number d (1 : Int32) μ7) (fun r8 μ8 => (if hs_in (((6 : Int32) * x1) + x2) 54 then he_M_readsHabit_2 d x1 (x2 + (1 : Int32)) (hs_wI μ8 50 0 ((((6 : Int32) * x1) + x2).toNatClampNeg) ((1 : Int32) * r8)) else none))))))))) else he_M_readsHabit_86 d x1 x2 μ) := by exact (hs_ev_go hp_M_readsHabit [2, 86] 58 2 _ [] μ).trans rfl
set_option maxRecDepth 100000 in
theorem hq_M_readsHabit_86 (d : Nat) (x1 : Int32) (x2 : Int32) (μ : hs_M)  : he_M_readsHabit_86 d x1 x2 μ =
  (if hs_in x1 9 then hs_rz (1 : Int32) (hs_wI μ 51 0 (x1.toNatClampNeg) x2) else none) := by exact (hs_ev_go hp_M_readsHabit [2, 86] 58 86 _ [] μ).trans rfl
noncomputable def he_M_readsPerson_23 (d : Nat)  (μ : hs_M) : Option (Option hs_V × hs_M) := hs_ev d 185 23 [none, none] [] μ
noncomputable def he_M_readsPerson_95 (d : Nat) (x1 : Int32) (μ : hs_M) : Option (Option hs_V × hs_M) := hs_ev d 185 95 [some (vR 12 0), some (vI x1)] [] μ
theorem hp_M_readsPerson : hs_prog 185 = (hs_k185, 2, 3) := rfl
set_option maxRecDepth 100000 in
theorem hq_M_readsPerson (d : Nat)  (μ : hs_M)  : hc_M_readsPerson (d + 1)  μ =
  hs_bI (hc_M_isDigit d μ) (fun r1 μ1 => (if r1 = 0 then he_M_readsPerson_23 d μ1 else (if ((μ.1 12 0 3) + (μ.1 12 0 21)) = (8 : Int32) then he_M_readsPerson_23 d μ1 else hs_bI (hc_M_number d (3 : Int32) μ1) (fun r2 μ2 => (if hs_in ((μ.1 12 0 3) + (μ.1 12 0 21)) 8 then (if hs_in ((μ.1 12 0 3) + (μ.1 12 0 21)) 8 then (if ((hs_wI μ2 48 0 (((μ.1 12 0 3) + (μ.1 12 0 21)).toNatClampNeg) r2).1 48 0 (((μ.1 12 0 3) + (μ.1 12 0 21)).toNatClampNeg)) = 0 then hs_rz (0 : Int32) (hs_wI (hs_wI μ2 48 0 (((μ.1 12 0 3) + (μ.1 12 0 21)).toNatClampNeg) r2) 12 0 14 ((μ2.1 12 0 14) - (1 : Int32))) else (if hs_in ((μ.1 12 0 3) + (μ.1 12 0 21)) 8 then hs_bI (hc_M_takes d (42 : Int32) (hs_wI (hs_wI μ2 48 0 (((μ.1 12 0 3) + (μ.1 12 0 21)).toNatClampNeg) r2) 49 0 (((μ.1 12 0 3) + (μ.1 12 0 21)).toNatClampNeg) (0 : Int32))) (fun r3 μ3 => (if r3 = 0 then he_M_readsPerson_95 d ((μ.1 12 0 3) + (μ.1 12 0 21)) μ3 else hs_bI (hc_M_among d 1 μ3) (fun r4 μ4 => (if r4 < 0 then hs_rz (0 : Int32) μ4 else hs_bI (hc_M_number d (1 : Int32) μ4) (fun r5 μ5 => (if hs_in ((μ.1 12 0 3) + (μ.1 12 0 21)) 8 then he_M_readsPerson_95 d ((μ.1 12 0 3) + (μ.1 12 0 21)) (hs_wI μ5 49 0 (((μ.1 12 0 3) + (μ.1 12 0 21)).toNatClampNeg) r5) else none)))))) else none)) else none) else none))))) := by exact (hs_ev_go hp_M_readsPerson [23, 95] 69 0 _ [] μ).trans rfl
set_option maxRecDepth 100000 in
theorem hq_M_readsPerson_23 (d : Nat)  (μ : hs_M)  : he_M_readsPerson_23 d  μ =
  hs_rz (0 : Int32) μ := by exact (hs_ev_go hp_M_readsPerson [23, 95] 69 23 _ [] μ).trans rfl
set_option maxRecDepth 100000 in
theorem hq_M_readsPerson_95 (d : Nat) (x1 : Int32) (μ : hs_M)  : he_M_readsPerson_95 d x1 μ =
  hs_bI (hc_M_readsHabit d x1 (hs_wI μ 12 0 21 ((μ.1 12 0 21) + (1 : Int32)))) (fun r1 μ1 => hs_rz r1 μ1) := by exact (hs_ev_go hp_M_readsPerson [23, 95] 69 95 _ [] μ).trans rfl
noncomputable def he_M_town_29 (d : Nat) (x1 : Int32) (x2 : Int32) (x3 : Int32) (μ : hs_M) : Option (Option hs_V × hs_M) := hs_ev d 186 29 [some (vR 12 0), some (vI x1), some (vI x2), some (vI x3), none, none, none] [] μ
noncomputable def he_M_town_55 (d : Nat) (x1 : Int32) (x2 : Int32) (μ : hs_M) : Option (Option hs_V × hs_M) := hs_ev d 186 55 [some (vR 12 0), some (vI x1), some (vI x2), none, none, none, none] [] μ
noncomputable def he_M_town_81 (d : Nat) (x1 : Int32) (x5 : Int32) (μ : hs_M) : Option (Option hs_V × hs_M) := hs_ev d 186 81 [some (vR 12 0), some (vI x1), none, none, none, some (vI x5), none] [] μ
theorem hp_M_town : hs_prog 186 = (hs_k186, 7, 1) := rfl
set_option maxRecDepth 100000 in
theorem hq_M_town (d : Nat)  (μ : hs_M)  : hc_M_town (d + 1)  μ =
  hs_bI (hc_M_begins d (76 : Int32) (hs_wI μ 12 0 0 (0 : Int32))) (fun r1 μ1 => (if 0 < r1 then he_M_town_29 d r1 (1 : Int32) (1 : Int32) (hs_wI μ1 12 0 21 (0 : Int32)) else he_M_town_29 d r1 (1 : Int32) (0 : Int32) (hs_wI μ1 12 0 21 (0 : Int32)))) := by exact (hs_ev_go hp_M_town [29, 55, 81] 98 0 _ [] μ).trans rfl
set_option maxRecDepth 100000 in
theorem hq_M_town_29 (d : Nat) (x1 : Int32) (x2 : Int32) (x3 : Int32) (μ : hs_M)  : he_M_town_29 d x1 x2 x3 μ =
  (if x3 = 0 then hs_bI (hc_M_faultOf d x1 (76 : Int32) x2 μ) (fun r1 μ1 => (if r1 < 0 then some (some (vI r1), μ1) else he_M_town_81 d x1 (0 : Int32) μ1)) else hs_bI (hc_M_readsPerson d μ) (fun r2 μ2 => (if r2 = 0 then he_M_town_55 d x1 r2 μ2 else hs_bI (hc_M_takes d (59 : Int32) μ2) (fun r3 μ3 => (if r3 = 0 then he_M_town_55 d x1 r2 μ3 else he_M_town_29 d x1 r2 (1 : Int32) μ3))))) := by exact (hs_ev_go hp_M_town [29, 55, 81] 98 29 _ [] μ).trans rfl
set_option maxRecDepth 100000 in
theorem hq_M_town_55 (d : Nat) (x1 : Int32) (x2 : Int32) (μ : hs_M)  : he_M_town_55 d x1 x2 μ =
  he_M_town_29 d x1 x2 (0 : Int32) μ := by exact (hs_ev_go hp_M_town [29, 55, 81] 98 55 _ [] μ).trans rfl
set_option maxRecDepth 100000 in
theorem hq_M_town_81 (d : Nat) (x1 : Int32) (x5 : Int32) (μ : hs_M)  : he_M_town_81 d x1 x5 μ =
  (if x5 < (μ.1 12 0 21) then (if hs_in ((μ.1 12 0 3) + x5) 8 then (if hs_in ((μ.1 12 0 3) + x5) 117 then (if hs_in ((μ.1 12 0 3) + x5) 8 then (if hs_in ((μ.1 12 0 3) + x5) 8 then hs_bV (hc_M_comes d ((μ.1 12 0 3) + x5) ((μ.1 12 0 3) + x5) (hs_wI (hs_wI μ 45 0 (((μ.1 12 0 3) + x5).toNatClampNeg) (μ.1 48 0 (((μ.1 12 0 3) + x5).toNatClampNeg))) 41 0 (((μ.1 12 0 3) + x5).toNatClampNeg) (μ.1 49 0 (((μ.1 12 0 3) + x5).toNatClampNeg)))) (fun μ1 => he_M_town_81 d x1 (x5 + (1 : Int32)) μ1) else none) else none) else none) else none) else (if 0 < x1 then some (some (vI (μ.1 12 0 21)), (hs_wI (hs_wI μ 12 0 3 ((μ.1 12 0 3) + (μ.1 12 0 21))) 12 0 28 (0 : Int32))) else some (some (vI (μ.1 12 0 21)), (hs_wI (hs_wI μ 12 0 3 ((μ.1 12 0 3) + (μ.1 12 0 21))) 12 0 28 (μ.1 12 0 28))))) := by exact (hs_ev_go hp_M_town [29, 55, 81] 98 81 _ [] μ).trans rfl
theorem hp_M_comes : hs_prog 187 = (hs_k187, 3, 0) := rfl
set_option maxRecDepth 100000 in
theorem hq_M_comes (d : Nat) (x1 : Int32) (x2 : Int32) (μ : hs_M)  : hc_M_comes (d + 1) x1 x2 μ =
  (if hs_in ((8 : Int32) + x1) 117 then (if hs_in x1 8 then hs_bV (hc_M_putsHabit d x1 x2 (hs_wI (hs_wI (hs_wI μ 45 0 (((8 : Int32) + x1).toNatClampNeg) (0 : Int32)) 45 0 16 (((hs_wI μ 45 0 (((8 : Int32) + x1).toNatClampNeg) (0 : Int32)).1 45 0 16) ||| ((1 : Int32) <<< (x1 &&& 31)))) 42 0 (x1.toNatClampNeg) (0 : Int32))) (fun μ1 => some (none, μ1)) else none) else none) := by exact (hs_ev_go hp_M_comes [] 30 0 _ [] μ).trans rfl
noncomputable def he_M_putsHabit_14 (d : Nat) (x1 : Int32) (x2 : Int32) (x3 : Int32) (μ : hs_M) : Option (Option hs_V × hs_M) := hs_ev d 188 14 [some (vR 12 0), some (vI x1), some (vI x2), some (vI x3)] [] μ
theorem hp_M_putsHabit : hs_prog 188 = (hs_k188, 4, 0) := rfl
set_option maxRecDepth 100000 in
theorem hq_M_putsHabit (d : Nat) (x1 : Int32) (x2 : Int32) (μ : hs_M)  : hc_M_putsHabit (d + 1) x1 x2 μ =
  (if hs_in x2 9 then (if hs_in x1 8 then he_M_putsHabit_14 d x1 x2 (0 : Int32) (hs_wI μ 44 0 (x1.toNatClampNeg) (μ.1 51 0 (x2.toNatClampNeg))) else none) else none) := by exact (hs_ev_go hp_M_putsHabit [14] 35 0 _ [] μ).trans rfl
set_option maxRecDepth 100000 in
theorem hq_M_putsHabit_14 (d : Nat) (x1 : Int32) (x2 : Int32) (x3 : Int32) (μ : hs_M)  : he_M_putsHabit_14 d x1 x2 x3 μ =
  (if x3 < (6 : Int32) then (if hs_in (((6 : Int32) * x2) + x3) 54 then (if hs_in (((6 : Int32) * x1) + x3) 48 then he_M_putsHabit_14 d x1 x2 (x3 + (1 : Int32)) (hs_wI μ 43 0 ((((6 : Int32) * x1) + x3).toNatClampNeg) (μ.1 50 0 ((((6 : Int32) * x2) + x3).toNatClampNeg))) else none) else none) else some (none, μ)) := by exact (hs_ev_go hp_M_putsHabit [14] 35 14 _ [] μ).trans rfl
theorem hp_M_habit : hs_prog 189 = (hs_k189, 5, 1) := rfl
set_option maxRecDepth 100000 in
theorem hq_M_habit (d : Nat) (x1 : Int32) (μ : hs_M)  : hc_M_habit (d + 1) x1 μ =
  hs_bI (hc_M_begins d (12 : Int32) (hs_wI μ 12 0 0 (0 : Int32))) (fun r1 μ1 => hs_bI (hc_M_isPerson d x1 μ1) (fun r2 μ2 => (if r2 = 0 then some (some (vI (-100 : Int32)), μ2) else hs_bI (hc_M_readsHabit d (8 : Int32) μ2) (fun r3 μ3 => hs_bI (hc_M_faultOf d r1 (12 : Int32) r3 μ3) (fun r4 μ4 => (if r4 < 0 then some (some (vI r4), μ4) else hs_bV (hc_M_putsHabit d x1 (8 : Int32) μ4) (fun μ5 => (if hs_in x1 8 then some (some (vI (μ5.1 44 0 (x1.toNatClampNeg))), μ5) else none)))))))) := by exact (hs_ev_go hp_M_habit [] 39 0 _ [] μ).trans rfl
theorem hp_M_codes : hs_prog 190 = (hs_k190, 2, 0) := rfl
set_option maxRecDepth 100000 in
theorem hq_M_codes (d : Nat) (x1 : Int32) (μ : hs_M)  : hc_M_codes (d + 1) x1 μ =
  (if hs_in (μ.1 12 0 25) 80 then some (none, (hs_wI (hs_wI μ 53 0 ((μ.1 12 0 25).toNatClampNeg) x1) 12 0 25 ((μ.1 12 0 25) + (1 : Int32)))) else none) := by exact (hs_ev_go hp_M_codes [] 16 0 _ [] μ).trans rfl
noncomputable def he_M_readsThing_90 (d : Nat)  (μ : hs_M) : Option (Option hs_V × hs_M) := hs_ev d 191 90 [none, none] [] μ
noncomputable def he_M_readsThing_119 (d : Nat)  (μ : hs_M) : Option (Option hs_V × hs_M) := hs_ev d 191 119 [none, none] [] μ
theorem hp_M_readsThing : hs_prog 191 = (hs_k191, 2, 3) := rfl
set_option maxRecDepth 100000 in
theorem hq_M_readsThing (d : Nat)  (μ : hs_M)  : hc_M_readsThing (d + 1)  μ =
  hs_bI (hc_M_takes d (45 : Int32) μ) (fun r1 μ1 => (if r1 = 0 then hs_bI (hc_M_isDigit d μ1) (fun r2 μ2 => (if r2 = 0 then hs_bI (hc_M_among d 2 μ2) (fun r3 μ3 => (if r3 < 0 then (if (μ3.1 12 0 16) = (4 : Int32) then he_M_readsThing_90 d μ3 else hs_bI (hc_M_takes d (40 : Int32) μ3) (fun r4 μ4 => (if r4 = 0 then he_M_readsThing_90 d μ4 else hs_bI (hc_M_readsRank d (0 : Int32) (hs_wI μ4 12 0 16 ((μ4.1 12 0 16) + (1 : Int32)))) (fun r5 μ5 => (if r5 = 0 then he_M_readsThing_119 d μ5 else hs_bI (hc_M_takes d (41 : Int32) μ5) (fun r6 μ6 => (if r6 = 0 then he_M_readsThing_119 d μ6 else hs_rz (1 : Int32) (hs_wI μ6 12 0 16 ((μ6.1 12 0 16) - (1 : Int32)))))))))) else hs_bV (hc_M_codes d ((1000 : Int32) + r3) (hs_wI μ3 12 0 14 ((μ3.1 12 0 14) + (1 : Int32)))) (fun μ7 => hs_rz (1 : Int32) μ7))) else hs_bI (hc_M_number d (3 : Int32) μ2) (fun r8 μ8 => hs_bV (hc_M_codes d r8 μ8) (fun μ9 => hs_rz (1 : Int32) μ9)))) else hs_bI (hc_M_readsThing d μ1) (fun r10 μ10 => hs_bV (hc_M_codes d (3000 : Int32) μ10) (fun μ11 => hs_rz r10 μ11)))) := by exact (hs_ev_go hp_M_readsThing [90, 119] 78 0 _ [] μ).trans rfl
set_option maxRecDepth 100000 in
theorem hq_M_readsThing_90 (d : Nat)  (μ : hs_M)  : he_M_readsThing_90 d  μ =
  hs_rz (0 : Int32) μ := by exact (hs_ev_go hp_M_readsThing [90, 119] 78 90 _ [] μ).trans rfl
set_option maxRecDepth 100000 in
theorem hq_M_readsThing_119 (d : Nat)  (μ : hs_M)  : he_M_readsThing_119 d  μ =
  hs_rz (0 : Int32) μ := by exact (hs_ev_go hp_M_readsThing [90, 119] 78 119 _ [] μ).trans rfl
noncomputable def he_M_readsRank_24 (d : Nat) (x1 : Int32) (x2 : Int32) (μ : hs_M) : Option (Option hs_V × hs_M) := hs_ev d 192 24 [some (vR 12 0), some (vI x1), some (vI x2), none] [] μ
theorem hp_M_readsRank : hs_prog 192 = (hs_k192, 4, 3) := rfl
set_option maxRecDepth 100000 in
theorem hq_M_readsRank (d : Nat) (x1 : Int32) (μ : hs_M)  : hc_M_readsRank (d + 1) x1 μ =
  (if x1 = (3 : Int32) then hs_bI (hc_M_readsThing d μ) (fun r1 μ1 => hs_rz r1 μ1) else hs_bI (hc_M_readsRank d (x1 + (1 : Int32)) μ) (fun r2 μ2 => (if r2 = 0 then hs_rz (0 : Int32) μ2 else he_M_readsRank_24 d x1 (1 : Int32) μ2))) := by exact (hs_ev_go hp_M_readsRank [24] 77 0 _ [] μ).trans rfl
set_option maxRecDepth 100000 in
theorem hq_M_readsRank_24 (d : Nat) (x1 : Int32) (x2 : Int32) (μ : hs_M)  : he_M_readsRank_24 d x1 x2 μ =
  (if x2 = 0 then hs_rz (1 : Int32) μ else (if x1 = 0 then hs_bI (hc_M_among d 3 μ) (fun r1 μ1 => (if r1 < 0 then hs_rz (1 : Int32) μ1 else hs_bI (hc_M_readsRank d (x1 + (1 : Int32)) (hs_wI μ1 12 0 14 ((μ1.1 12 0 14) + (1 : Int32)))) (fun r2 μ2 => (if r2 = 0 then hs_rz (0 : Int32) μ2 else (if x1 = 0 then hs_bV (hc_M_codes d (((2000 : Int32) + r1) + (0 : Int32)) μ2) (fun μ3 => (if 0 < x1 then he_M_readsRank_24 d x1 (1 : Int32) μ3 else he_M_readsRank_24 d x1 (0 : Int32) μ3)) else (if x1 = (1 : Int32) then hs_bV (hc_M_codes d (((2000 : Int32) + r1) + (3 : Int32)) μ2) (fun μ4 => (if 0 < x1 then he_M_readsRank_24 d x1 (1 : Int32) μ4 else he_M_readsRank_24 d x1 (0 : Int32) μ4)) else hs_bV (hc_M_codes d (((2000 : Int32) + r1) + (5 : Int32)) μ2) (fun μ5 => (if 0 < x1 then he_M_readsRank_24 d x1 (1 : Int32) μ5 else he_M_readsRank_24 d x1 (0 : Int32) μ5)))))))) else (if x1 = (1 : Int32) then hs_bI (hc_M_among d 0 μ) (fun r6 μ6 => (if r6 < 0 then hs_rz (1 : Int32) μ6 else hs_bI (hc_M_readsRank d (x1 + (1 : Int32)) (hs_wI μ6 12 0 14 ((μ6.1 12 0 14) + (1 : Int32)))) (fun r7 μ7 => (if r7 = 0 then hs_rz (0 : Int32) μ7 else (if x1 = 0 then hs_bV (hc_M_codes d (((2000 : Int32) + r6) + (0 : Int32)) μ7) (fun μ8 => (if 0 < x1 then he_M_readsRank_24 d x1 (1 : Int32) μ8 else he_M_readsRank_24 d x1 (0 : Int32) μ8)) else (if x1 = (1 : Int32) then hs_bV (hc_M_codes d (((2000 : Int32) + r6) + (3 : Int32)) μ7) (fun μ9 => (if 0 < x1 then he_M_readsRank_24 d x1 (1 : Int32) μ9 else he_M_readsRank_24 d x1 (0 : Int32) μ9)) else hs_bV (hc_M_codes d (((2000 : Int32) + r6) + (5 : Int32)) μ7) (fun μ10 => (if 0 < x1 then he_M_readsRank_24 d x1 (1 : Int32) μ10 else he_M_readsRank_24 d x1 (0 : Int32) μ10)))))))) else hs_bI (hc_M_among d 4 μ) (fun r11 μ11 => (if r11 < 0 then hs_rz (1 : Int32) μ11 else hs_bI (hc_M_readsRank d (x1 + (1 : Int32)) (hs_wI μ11 12 0 14 ((μ11.1 12 0 14) + (1 : Int32)))) (fun r12 μ12 => (if r12 = 0 then hs_rz (0 : Int32) μ12 else (if x1 = 0 then hs_bV (hc_M_codes d (((2000 : Int32) + r11) + (0 : Int32)) μ12) (fun μ13 => (if 0 < x1 then he_M_readsRank_24 d x1 (1 : Int32) μ13 else he_M_readsRank_24 d x1 (0 : Int32) μ13)) else (if x1 = (1 : Int32) then hs_bV (hc_M_codes d (((2000 : Int32) + r11) + (3 : Int32)) μ12) (fun μ14 => (if 0 < x1 then he_M_readsRank_24 d x1 (1 : Int32) μ14 else he_M_readsRank_24 d x1 (0 : Int32) μ14)) else hs_bV (hc_M_codes d (((2000 : Int32) + r11) + (5 : Int32)) μ12) (fun μ15 => (if 0 < x1 then he_M_readsRank_24 d x1 (1 : Int32) μ15 else he_M_readsRank_24 d x1 (0 : Int32) μ15))))))))))) := by exact (hs_ev_go hp_M_readsRank [24] 77 24 _ [] μ).trans rfl
