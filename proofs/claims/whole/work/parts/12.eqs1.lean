/-! ===== the equations of the methods, 1 ===== -/
theorem hp_Int_bitCount : hs_prog 0 = (hs_k0, 1, 1) := rfl
set_option maxRecDepth 100000 in
theorem hq_Int_bitCount (d : Nat) (x0 : Int32) (μ : hs_M)  : hc_Int_bitCount (d + 1) x0 μ =
  some (some (vI ((((((((x0 - (((x0.toUInt32 >>> ((1 : Int32).toUInt32 &&& Int32.toUInt32 31)).toInt32) &&& (1431655765 : Int32))) &&& (858993459 : Int32)) + ((((x0 - (((x0.toUInt32 >>> ((1 : Int32).toUInt32 &&& Int32.toUInt32 31)).toInt32) &&& (1431655765 : Int32))).toUInt32 >>> ((2 : Int32).toUInt32 &&& Int32.toUInt32 31)).toInt32) &&& (858993459 : Int32))) + (((((x0 - (((x0.toUInt32 >>> ((1 : Int32).toUInt32 &&& Int32.toUInt32 31)).toInt32) &&& (1431655765 : Int32))) &&& (858993459 : Int32)) + ((((x0 - (((x0.toUInt32 >>> ((1 : Int32).toUInt32 &&& Int32.toUInt32 31)).toInt32) &&& (1431655765 : Int32))).toUInt32 >>> ((2 : Int32).toUInt32 &&& Int32.toUInt32 31)).toInt32) &&& (858993459 : Int32))).toUInt32 >>> ((4 : Int32).toUInt32 &&& Int32.toUInt32 31)).toInt32)) &&& (252645135 : Int32)) + (((((((x0 - (((x0.toUInt32 >>> ((1 : Int32).toUInt32 &&& Int32.toUInt32 31)).toInt32) &&& (1431655765 : Int32))) &&& (858993459 : Int32)) + ((((x0 - (((x0.toUInt32 >>> ((1 : Int32).toUInt32 &&& Int32.toUInt32 31)).toInt32) &&& (1431655765 : Int32))).toUInt32 >>> ((2 : Int32).toUInt32 &&& Int32.toUInt32 31)).toInt32) &&& (858993459 : Int32))) + (((((x0 - (((x0.toUInt32 >>> ((1 : Int32).toUInt32 &&& Int32.toUInt32 31)).toInt32) &&& (1431655765 : Int32))) &&& (858993459 : Int32)) + ((((x0 - (((x0.toUInt32 >>> ((1 : Int32).toUInt32 &&& Int32.toUInt32 31)).toInt32) &&& (1431655765 : Int32))).toUInt32 >>> ((2 : Int32).toUInt32 &&& Int32.toUInt32 31)).toInt32) &&& (858993459 : Int32))).toUInt32 >>> ((4 : Int32).toUInt32 &&& Int32.toUInt32 31)).toInt32)) &&& (252645135 : Int32)).toUInt32 >>> ((8 : Int32).toUInt32 &&& Int32.toUInt32 31)).toInt32)) + ((((((((x0 - (((x0.toUInt32 >>> ((1 : Int32).toUInt32 &&& Int32.toUInt32 31)).toInt32) &&& (1431655765 : Int32))) &&& (858993459 : Int32)) + ((((x0 - (((x0.toUInt32 >>> ((1 : Int32).toUInt32 &&& Int32.toUInt32 31)).toInt32) &&& (1431655765 : Int32))).toUInt32 >>> ((2 : Int32).toUInt32 &&& Int32.toUInt32 31)).toInt32) &&& (858993459 : Int32))) + (((((x0 - (((x0.toUInt32 >>> ((1 : Int32).toUInt32 &&& Int32.toUInt32 31)).toInt32) &&& (1431655765 : Int32))) &&& (858993459 : Int32)) + ((((x0 - (((x0.toUInt32 >>> ((1 : Int32).toUInt32 &&& Int32.toUInt32 31)).toInt32) &&& (1431655765 : Int32))).toUInt32 >>> ((2 : Int32).toUInt32 &&& Int32.toUInt32 31)).toInt32) &&& (858993459 : Int32))).toUInt32 >>> ((4 : Int32).toUInt32 &&& Int32.toUInt32 31)).toInt32)) &&& (252645135 : Int32)) + (((((((x0 - (((x0.toUInt32 >>> ((1 : Int32).toUInt32 &&& Int32.toUInt32 31)).toInt32) &&& (1431655765 : Int32))) &&& (858993459 : Int32)) + ((((x0 - (((x0.toUInt32 >>> ((1 : Int32).toUInt32 &&& Int32.toUInt32 31)).toInt32) &&& (1431655765 : Int32))).toUInt32 >>> ((2 : Int32).toUInt32 &&& Int32.toUInt32 31)).toInt32) &&& (858993459 : Int32))) + (((((x0 - (((x0.toUInt32 >>> ((1 : Int32).toUInt32 &&& Int32.toUInt32 31)).toInt32) &&& (1431655765 : Int32))) &&& (858993459 : Int32)) + ((((x0 - (((x0.toUInt32 >>> ((1 : Int32).toUInt32 &&& Int32.toUInt32 31)).toInt32) &&& (1431655765 : Int32))).toUInt32 >>> ((2 : Int32).toUInt32 &&& Int32.toUInt32 31)).toInt32) &&& (858993459 : Int32))).toUInt32 >>> ((4 : Int32).toUInt32 &&& Int32.toUInt32 31)).toInt32)) &&& (252645135 : Int32)).toUInt32 >>> ((8 : Int32).toUInt32 &&& Int32.toUInt32 31)).toInt32)).toUInt32 >>> ((16 : Int32).toUInt32 &&& Int32.toUInt32 31)).toInt32)) &&& (63 : Int32))), μ) := by exact (hs_ev_go hp_Int_bitCount [] 45 0 _ [] μ).trans rfl
noncomputable def he_Math_floorMod_18 (d : Nat) (x2 : Int32) (μ : hs_M) : Option (Option hs_V × hs_M) := hs_ev d 1 18 [none, none, some (vI x2)] [] μ
theorem hp_Math_floorMod : hs_prog 1 = (hs_k1, 3, 1) := rfl
set_option maxRecDepth 100000 in
theorem hq_Math_floorMod (d : Nat) (x0 : Int32) (x1 : Int32) (μ : hs_M)  : hc_Math_floorMod (d + 1) x0 x1 μ =
  (if x1 = 0 then none else (if (x0 ^^^ x1) < 0 then (if (x0 - x0 / x1 * x1) = 0 then he_Math_floorMod_18 d (x0 - x0 / x1 * x1) μ else some (some (vI ((x0 - x0 / x1 * x1) + x1)), μ)) else he_Math_floorMod_18 d (x0 - x0 / x1 * x1) μ)) := by exact (hs_ev_go hp_Math_floorMod [18] 19 0 _ [] μ).trans rfl
set_option maxRecDepth 100000 in
theorem hq_Math_floorMod_18 (d : Nat) (x2 : Int32) (μ : hs_M)  : he_Math_floorMod_18 d x2 μ =
  some (some (vI x2), μ) := by exact (hs_ev_go hp_Math_floorMod [18] 19 18 _ [] μ).trans rfl
theorem hp_Math_max : hs_prog 2 = (hs_k2, 2, 1) := rfl
set_option maxRecDepth 100000 in
theorem hq_Math_max (d : Nat) (x0 : Int32) (x1 : Int32) (μ : hs_M)  : hc_Math_max (d + 1) x0 x1 μ =
  (if x0 < x1 then some (some (vI x1), μ) else some (some (vI x0), μ)) := by exact (hs_ev_go hp_Math_max [] 10 0 _ [] μ).trans rfl
theorem hp_Math_min : hs_prog 3 = (hs_k3, 2, 1) := rfl
set_option maxRecDepth 100000 in
theorem hq_Math_min (d : Nat) (x0 : Int32) (x1 : Int32) (μ : hs_M)  : hc_Math_min (d + 1) x0 x1 μ =
  (if x1 < x0 then some (some (vI x1), μ) else some (some (vI x0), μ)) := by exact (hs_ev_go hp_Math_min [] 10 0 _ [] μ).trans rfl
noncomputable def he_Future_run_13 (d : Nat) (x1 : Int32) (x2 : Int32) (x3 : Int32) (μ : hs_M) : Option (Option hs_V × hs_M) := hs_ev d 4 13 [some (vR 0 0), some (vI x1), some (vI x2), some (vI x3)] [] μ
theorem hp_Future_run : hs_prog 4 = (hs_k4, 4, 0) := rfl
set_option maxRecDepth 100000 in
theorem hq_Future_run (d : Nat) (x1 : Int32) (x2 : Int32) (μ : hs_M)  : hc_Future_run (d + 1) x1 x2 μ =
  hs_bV (hc_State_follow d 35 0 μ) (fun μ1 => he_Future_run_13 d x1 x2 (0 : Int32) μ1) := by exact (hs_ev_go hp_Future_run [13] 23 0 _ [] μ).trans rfl
set_option maxRecDepth 100000 in
theorem hq_Future_run_13 (d : Nat) (x1 : Int32) (x2 : Int32) (x3 : Int32) (μ : hs_M)  : he_Future_run_13 d x1 x2 x3 μ =
  (if x3 < x1 then hs_bV (hc_Office_pass d 35 (0 : Int32) x2 μ) (fun μ1 => he_Future_run_13 d x1 x2 (x3 + (1 : Int32)) μ1) else some (none, μ)) := by exact (hs_ev_go hp_Future_run [13] 23 13 _ [] μ).trans rfl
theorem hp_Future_gain : hs_prog 5 = (hs_k5, 2, 1) := rfl
set_option maxRecDepth 100000 in
theorem hq_Future_gain (d : Nat) (x1 : Int32) (μ : hs_M)  : hc_Future_gain (d + 1) x1 μ =
  (if hs_in x1 8 then (if hs_in x1 8 then some (some (vI ((μ.1 25 35 (x1.toNatClampNeg)) - (μ.1 25 0 (x1.toNatClampNeg)))), μ) else none) else none) := by exact (hs_ev_go hp_Future_gain [] 15 0 _ [] μ).trans rfl
noncomputable def he_Future_gainOfParty_4 (d : Nat) (x1 : Int32) (x2 : Int32) (x3 : Int32) (μ : hs_M) : Option (Option hs_V × hs_M) := hs_ev d 6 4 [some (vR 0 0), some (vI x1), some (vI x2), some (vI x3)] [] μ
noncomputable def he_Future_gainOfParty_36 (d : Nat) (x1 : Int32) (x2 : Int32) (x3 : Int32) (μ : hs_M) : Option (Option hs_V × hs_M) := hs_ev d 6 36 [some (vR 0 0), some (vI x1), some (vI x2), some (vI x3)] [] μ
theorem hp_Future_gainOfParty : hs_prog 6 = (hs_k6, 4, 1) := rfl
set_option maxRecDepth 100000 in
theorem hq_Future_gainOfParty (d : Nat) (x1 : Int32) (μ : hs_M)  : hc_Future_gainOfParty (d + 1) x1 μ =
  he_Future_gainOfParty_4 d x1 (0 : Int32) (0 : Int32) μ := by exact (hs_ev_go hp_Future_gainOfParty [4, 36] 29 0 _ [] μ).trans rfl
set_option maxRecDepth 100000 in
theorem hq_Future_gainOfParty_4 (d : Nat) (x1 : Int32) (x2 : Int32) (x3 : Int32) (μ : hs_M)  : he_Future_gainOfParty_4 d x1 x2 x3 μ =
  (if x3 < (μ.1 8 0 9) then (if hs_in x3 8 then (if (μ.1 15 0 (x3.toNatClampNeg)) = x1 then hs_bI (hc_Future_gain d x3 μ) (fun r1 μ1 => he_Future_gainOfParty_36 d x1 (x2 + r1) x3 μ1) else he_Future_gainOfParty_36 d x1 x2 x3 μ) else none) else some (some (vI x2), μ)) := by exact (hs_ev_go hp_Future_gainOfParty [4, 36] 29 4 _ [] μ).trans rfl
set_option maxRecDepth 100000 in
theorem hq_Future_gainOfParty_36 (d : Nat) (x1 : Int32) (x2 : Int32) (x3 : Int32) (μ : hs_M)  : he_Future_gainOfParty_36 d x1 x2 x3 μ =
  he_Future_gainOfParty_4 d x1 x2 (x3 + (1 : Int32)) μ := by exact (hs_ev_go hp_Future_gainOfParty [4, 36] 29 36 _ [] μ).trans rfl
noncomputable def he_Future_serverThen_18 (d : Nat) (x2 : Int32) (μ : hs_M) : Option (Option hs_V × hs_M) := hs_ev d 7 18 [some (vR 0 0), none, some (vI x2)] [] μ
theorem hp_Future_serverThen : hs_prog 7 = (hs_k7, 3, 1) := rfl
set_option maxRecDepth 100000 in
theorem hq_Future_serverThen (d : Nat) (x1 : Int32) (μ : hs_M)  : hc_Future_serverThen (d + 1) x1 μ =
  hs_bV (hc_Future_run d x1 (255 : Int32) μ) (fun μ1 => he_Future_serverThen_18 d (0 : Int32) (hs_wI μ1 4 0 1 (0 : Int32))) := by exact (hs_ev_go hp_Future_serverThen [18] 31 0 _ [] μ).trans rfl
set_option maxRecDepth 100000 in
theorem hq_Future_serverThen_18 (d : Nat) (x2 : Int32) (μ : hs_M)  : he_Future_serverThen_18 d x2 μ =
  (if x2 < (μ.1 8 0 9) then hs_bI (hc_Future_gain d x2 μ) (fun r1 μ1 => hs_bV (hc_Row_add d (r1.toInt64) μ1) (fun μ2 => he_Future_serverThen_18 d (x2 + (1 : Int32)) μ2)) else some (some (vI (μ.1 6 35 1)), μ)) := by exact (hs_ev_go hp_Future_serverThen [18] 31 18 _ [] μ).trans rfl
noncomputable def he_Future_weeksTill_13 (d : Nat) (x1 : Int32) (x2 : Int32) (μ : hs_M) : Option (Option hs_V × hs_M) := hs_ev d 8 13 [some (vR 0 0), some (vI x1), some (vI x2)] [] μ
theorem hp_Future_weeksTill : hs_prog 8 = (hs_k8, 3, 1) := rfl
set_option maxRecDepth 100000 in
theorem hq_Future_weeksTill (d : Nat) (x1 : Int32) (μ : hs_M)  : hc_Future_weeksTill (d + 1) x1 μ =
  hs_bV (hc_State_follow d 35 0 μ) (fun μ1 => he_Future_weeksTill_13 d x1 (1 : Int32) μ1) := by exact (hs_ev_go hp_Future_weeksTill [13] 31 0 _ [] μ).trans rfl
set_option maxRecDepth 100000 in
theorem hq_Future_weeksTill_13 (d : Nat) (x1 : Int32) (x2 : Int32) (μ : hs_M)  : he_Future_weeksTill_13 d x1 x2 μ =
  (if (99 : Int32) < x2 then some (some (vI (-2 : Int32)), μ) else hs_bV (hc_Office_pass d 35 (0 : Int32) (255 : Int32) μ) (fun μ1 => (if (μ1.1 6 35 1) = x1 then some (some (vI x2), μ1) else he_Future_weeksTill_13 d x1 (x2 + (1 : Int32)) μ1))) := by exact (hs_ev_go hp_Future_weeksTill [13] 31 13 _ [] μ).trans rfl
noncomputable def he_Future_reachable_45 (d : Nat) (x1 : Int32) (x2 : Int32) (x3 : Int32) (x4 : Int32) (x5 : Int32) (μ : hs_M) : Option (Option hs_V × hs_M) := hs_ev d 9 45 [some (vR 0 0), some (vI x1), some (vI x2), some (vI x3), some (vI x4), some (vI x5)] [] μ
theorem hp_Future_reachable : hs_prog 9 = (hs_k9, 6, 1) := rfl
set_option maxRecDepth 100000 in
theorem hq_Future_reachable (d : Nat) (x1 : Int32) (μ : hs_M)  : hc_Future_reachable (d + 1) x1 μ =
  (if (μ.1 6 0 1) < 0 then hs_bV (hc_State_follow d 35 0 μ) (fun μ1 => he_Future_reachable_45 d x1 (0 : Int32) (0 : Int32) (256 : Int32) (0 : Int32) μ1) else hs_bV (hc_State_follow d 35 0 μ) (fun μ2 => he_Future_reachable_45 d x1 (0 : Int32) (0 : Int32) ((1 : Int32) <<< ((μ.1 6 0 1) &&& 31)) (0 : Int32) μ2)) := by exact (hs_ev_go hp_Future_reachable [45] 61 0 _ [] μ).trans rfl
set_option maxRecDepth 100000 in
theorem hq_Future_reachable_45 (d : Nat) (x1 : Int32) (x2 : Int32) (x3 : Int32) (x4 : Int32) (x5 : Int32) (μ : hs_M)  : he_Future_reachable_45 d x1 x2 x3 x4 x5 μ =
  (if x5 < x1 then hs_bI (hc_Future_lightest d x4 μ) (fun r1 μ1 => hs_bI (hc_Future_heavierThan d r1 μ1) (fun r2 μ2 => hs_bV (hc_Office_pass d 35 (0 : Int32) (0 : Int32) μ2) (fun μ3 => he_Future_reachable_45 d x1 (x2 ||| ((x4 ||| r2) &&& (255 : Int32))) ((x4 ||| r2) &&& (255 : Int32)) (x4 ||| r2) (x5 + (1 : Int32)) μ3))) else hs_bV (hc_Row_begin d (x3.toInt64) μ) (fun μ4 => some (some (vI x2), μ4))) := by exact (hs_ev_go hp_Future_reachable [45] 61 45 _ [] μ).trans rfl
noncomputable def he_Future_lightest_16 (d : Nat) (x1 : Int32) (x2 : Int32) (x3 : Int32) (μ : hs_M) : Option (Option hs_V × hs_M) := hs_ev d 10 16 [some (vR 0 0), some (vI x1), some (vI x2), some (vI x3)] [] μ
noncomputable def he_Future_lightest_59 (d : Nat) (x1 : Int32) (x2 : Int32) (x3 : Int32) (μ : hs_M) : Option (Option hs_V × hs_M) := hs_ev d 10 59 [some (vR 0 0), some (vI x1), some (vI x2), some (vI x3)] [] μ
theorem hp_Future_lightest : hs_prog 10 = (hs_k10, 4, 1) := rfl
set_option maxRecDepth 100000 in
theorem hq_Future_lightest (d : Nat) (x1 : Int32) (μ : hs_M)  : hc_Future_lightest (d + 1) x1 μ =
  (if (x1 &&& (256 : Int32)) = 0 then he_Future_lightest_16 d x1 (1010 : Int32) (0 : Int32) μ else some (some (vI (-1 : Int32)), μ)) := by exact (hs_ev_go hp_Future_lightest [16, 59] 40 0 _ [] μ).trans rfl
set_option maxRecDepth 100000 in
theorem hq_Future_lightest_16 (d : Nat) (x1 : Int32) (x2 : Int32) (x3 : Int32) (μ : hs_M)  : he_Future_lightest_16 d x1 x2 x3 μ =
  (if x3 < (μ.1 8 0 9) then (if ((x1 >>> (x3 &&& 31)) &&& (1 : Int32)) = 0 then he_Future_lightest_59 d x1 x2 x3 μ else (if hs_in x3 8 then hs_bI (hc_Scale_shows d (μ.1 24 35 (x3.toNatClampNeg)) μ) (fun r1 μ1 => hs_bI (hc_Math_min d x2 r1 μ1) (fun r2 μ2 => he_Future_lightest_59 d x1 r2 x3 μ2)) else none)) else some (some (vI x2), μ)) := by exact (hs_ev_go hp_Future_lightest [16, 59] 40 16 _ [] μ).trans rfl
set_option maxRecDepth 100000 in
theorem hq_Future_lightest_59 (d : Nat) (x1 : Int32) (x2 : Int32) (x3 : Int32) (μ : hs_M)  : he_Future_lightest_59 d x1 x2 x3 μ =
  he_Future_lightest_16 d x1 x2 (x3 + (1 : Int32)) μ := by exact (hs_ev_go hp_Future_lightest [16, 59] 40 59 _ [] μ).trans rfl
noncomputable def he_Future_heavierThan_4 (d : Nat) (x1 : Int32) (x2 : Int32) (x3 : Int32) (μ : hs_M) : Option (Option hs_V × hs_M) := hs_ev d 11 4 [some (vR 0 0), some (vI x1), some (vI x2), some (vI x3)] [] μ
noncomputable def he_Future_heavierThan_55 (d : Nat) (x1 : Int32) (x2 : Int32) (x3 : Int32) (μ : hs_M) : Option (Option hs_V × hs_M) := hs_ev d 11 55 [some (vR 0 0), some (vI x1), some (vI x2), some (vI x3)] [] μ
theorem hp_Future_heavierThan : hs_prog 11 = (hs_k11, 4, 1) := rfl
set_option maxRecDepth 100000 in
theorem hq_Future_heavierThan (d : Nat) (x1 : Int32) (μ : hs_M)  : hc_Future_heavierThan (d + 1) x1 μ =
  he_Future_heavierThan_4 d x1 (0 : Int32) (0 : Int32) μ := by exact (hs_ev_go hp_Future_heavierThan [4, 55] 38 0 _ [] μ).trans rfl
set_option maxRecDepth 100000 in
theorem hq_Future_heavierThan_4 (d : Nat) (x1 : Int32) (x2 : Int32) (x3 : Int32) (μ : hs_M)  : he_Future_heavierThan_4 d x1 x2 x3 μ =
  (if x3 < (μ.1 8 0 9) then hs_bI (hc_State_lives d 35 x3 μ) (fun r1 μ1 => (if r1 = 0 then he_Future_heavierThan_55 d x1 x2 x3 μ1 else (if hs_in x3 8 then hs_bI (hc_Scale_shows d (μ1.1 24 35 (x3.toNatClampNeg)) μ1) (fun r2 μ2 => (if x1 < r2 then he_Future_heavierThan_55 d x1 (x2 ||| ((1 : Int32) <<< (x3 &&& 31))) x3 μ2 else he_Future_heavierThan_55 d x1 x2 x3 μ2)) else none))) else some (some (vI x2), μ)) := by exact (hs_ev_go hp_Future_heavierThan [4, 55] 38 4 _ [] μ).trans rfl
set_option maxRecDepth 100000 in
theorem hq_Future_heavierThan_55 (d : Nat) (x1 : Int32) (x2 : Int32) (x3 : Int32) (μ : hs_M)  : he_Future_heavierThan_55 d x1 x2 x3 μ =
  he_Future_heavierThan_4 d x1 x2 (x3 + (1 : Int32)) μ := by exact (hs_ev_go hp_Future_heavierThan [4, 55] 38 55 _ [] μ).trans rfl
theorem hp_Future_bestStanding : hs_prog 12 = (hs_k12, 3, 1) := rfl
set_option maxRecDepth 100000 in
theorem hq_Future_bestStanding (d : Nat) (x1 : Int32) (x2 : Int32) (μ : hs_M)  : hc_Future_bestStanding (d + 1) x1 x2 μ =
  hs_bV (hc_State_follow d 24 0 (hs_wI (hs_wI (hs_wI (hs_wI μ 0 0 9 x1) 0 0 10 x2) 0 0 11 (-1 : Int32)) 0 0 12 (0 : Int32))) (fun μ1 => hs_bV (hc_Future_search d (0 : Int32) (0 : Int32) μ1) (fun μ2 => hs_bV (hc_Row_begin d ((μ2.1 0 0 12).toInt64) μ2) (fun μ3 => some (some (vI (μ3.1 0 0 11)), μ3)))) := by exact (hs_ev_go hp_Future_bestStanding [] 35 0 _ [] μ).trans rfl
noncomputable def he_Future_search_18 (d : Nat)  (μ : hs_M) : Option (Option hs_V × hs_M) := hs_ev d 13 18 [none, none, none, none, none, none] [] μ
noncomputable def he_Future_search_81 (d : Nat) (x2 : Int32) (x4 : Int32) (μ : hs_M) : Option (Option hs_V × hs_M) := hs_ev d 13 81 [some (vR 0 0), none, some (vI x2), none, some (vI x4), none] [] μ
theorem hp_Future_search : hs_prog 13 = (hs_k13, 6, 0) := rfl
set_option maxRecDepth 100000 in
theorem hq_Future_search (d : Nat) (x1 : Int32) (x2 : Int32) (μ : hs_M)  : hc_Future_search (d + 1) x1 x2 μ =
  (if x1 < 0 then he_Future_search_18 d μ else (if (μ.1 0 0 10) < x1 then he_Future_search_18 d μ else (if (10 : Int32) < x1 then he_Future_search_18 d μ else (if hs_in x1 11 then (if hs_in (μ.1 0 0 9) 8 then (if hs_in (μ.1 0 0 9) 8 then (if ((((μ.1 25 (24 + x1.toNatClampNeg) ((μ.1 0 0 9).toNatClampNeg)) - (μ.1 25 0 ((μ.1 0 0 9).toNatClampNeg))) + (μ.1 0 0 10)) - x1) < (μ.1 0 0 11) then some (none, μ) else (if x1 = (μ.1 0 0 10) then he_Future_search_81 d x2 ((μ.1 25 (24 + x1.toNatClampNeg) ((μ.1 0 0 9).toNatClampNeg)) - (μ.1 25 0 ((μ.1 0 0 9).toNatClampNeg))) μ else (if x1 = (10 : Int32) then he_Future_search_81 d x2 ((μ.1 25 (24 + x1.toNatClampNeg) ((μ.1 0 0 9).toNatClampNeg)) - (μ.1 25 0 ((μ.1 0 0 9).toNatClampNeg))) μ else (if hs_in (x1 + (1 : Int32)) 11 then hs_bV (hc_Future_searchStanding d (24 + x1.toNatClampNeg) (24 + (x1 + (1 : Int32)).toNatClampNeg) x1 x2 μ) (fun μ1 => hs_bV (hc_Future_searchWaiting d (24 + x1.toNatClampNeg) (24 + (x1 + (1 : Int32)).toNatClampNeg) x1 x2 μ1) (fun μ2 => some (none, μ2))) else none)))) else none) else none) else none)))) := by exact (hs_ev_go hp_Future_search [18, 81] 73 0 _ [] μ).trans rfl
set_option maxRecDepth 100000 in
theorem hq_Future_search_18 (d : Nat)  (μ : hs_M)  : he_Future_search_18 d  μ =
  some (none, μ) := by exact (hs_ev_go hp_Future_search [18, 81] 73 18 _ [] μ).trans rfl
set_option maxRecDepth 100000 in
theorem hq_Future_search_81 (d : Nat) (x2 : Int32) (x4 : Int32) (μ : hs_M)  : he_Future_search_81 d x2 x4 μ =
  hs_bV (hc_Future_judge d x4 x2 μ) (fun μ1 => some (none, μ1)) := by exact (hs_ev_go hp_Future_search [18, 81] 73 81 _ [] μ).trans rfl
noncomputable def he_Future_searchStanding_66 (d : Nat)  (μ : hs_M) : Option (Option hs_V × hs_M) := hs_ev d 14 66 [none, none, none, none, none] [] μ
theorem hp_Future_searchStanding : hs_prog 14 = (hs_k14, 5, 0) := rfl
set_option maxRecDepth 100000 in
theorem hq_Future_searchStanding (d : Nat) (j1 : Nat) (j2 : Nat) (x3 : Int32) (x4 : Int32) (μ : hs_M)  : hc_Future_searchStanding (d + 1) j1 j2 x3 x4 μ =
  (if (μ.1 6 j1 1) = (μ.1 0 0 9) then he_Future_searchStanding_66 d μ else hs_bI (hc_Future_allButChooser d μ) (fun r1 μ1 => hs_bI (hc_Office_winner d j1 ((1 : Int32) <<< ((μ.1 0 0 9) &&& 31)) r1 μ1) (fun r2 μ2 => (if r2 = (μ2.1 0 0 9) then hs_bV (hc_State_follow d j2 j1 μ2) (fun μ3 => hs_bV (hc_Office_finish d j2 (μ3.1 0 0 9) μ3) (fun μ4 => hs_bV (hc_Future_search d (x3 + (1 : Int32)) (x4 ||| ((1 : Int32) <<< (x3 &&& 31))) μ4) (fun μ5 => he_Future_searchStanding_66 d μ5))) else he_Future_searchStanding_66 d μ2)))) := by exact (hs_ev_go hp_Future_searchStanding [66] 41 0 _ [] μ).trans rfl
set_option maxRecDepth 100000 in
theorem hq_Future_searchStanding_66 (d : Nat)  (μ : hs_M)  : he_Future_searchStanding_66 d  μ =
  some (none, μ) := by exact (hs_ev_go hp_Future_searchStanding [66] 41 66 _ [] μ).trans rfl
theorem hp_Future_searchWaiting : hs_prog 15 = (hs_k15, 5, 0) := rfl
set_option maxRecDepth 100000 in
theorem hq_Future_searchWaiting (d : Nat) (j1 : Nat) (j2 : Nat) (x3 : Int32) (x4 : Int32) (μ : hs_M)  : hc_Future_searchWaiting (d + 1) j1 j2 x3 x4 μ =
  hs_bV (hc_State_follow d j2 j1 μ) (fun μ1 => hs_bI (hc_Future_allButChooser d μ1) (fun r2 μ2 => hs_bV (hc_Office_pass d j2 (0 : Int32) r2 μ2) (fun μ3 => hs_bV (hc_Future_search d (x3 + (1 : Int32)) x4 μ3) (fun μ4 => some (none, μ4))))) := by exact (hs_ev_go hp_Future_searchWaiting [] 20 0 _ [] μ).trans rfl
theorem hp_Future_allButChooser : hs_prog 16 = (hs_k16, 1, 1) := rfl
set_option maxRecDepth 100000 in
theorem hq_Future_allButChooser (d : Nat)  (μ : hs_M)  : hc_Future_allButChooser (d + 1)  μ =
  some (some (vI ((255 : Int32) &&& (((1 : Int32) <<< ((μ.1 0 0 9) &&& 31)) ^^^ (-1 : Int32)))), μ) := by exact (hs_ev_go hp_Future_allButChooser [] 12 0 _ [] μ).trans rfl
noncomputable def he_Future_judge_36 (d : Nat) (x1 : Int32) (x2 : Int32) (μ : hs_M) : Option (Option hs_V × hs_M) := hs_ev d 17 36 [some (vR 0 0), some (vI x1), some (vI x2), none] [] μ
noncomputable def he_Future_judge_40 (d : Nat) (x1 : Int32) (x2 : Int32) (μ : hs_M) : Option (Option hs_V × hs_M) := hs_ev d 17 40 [some (vR 0 0), some (vI x1), some (vI x2), none] [] μ
noncomputable def he_Future_judge_62 (d : Nat) (x1 : Int32) (x2 : Int32) (μ : hs_M) : Option (Option hs_V × hs_M) := hs_ev d 17 62 [some (vR 0 0), some (vI x1), some (vI x2), none] [] μ
noncomputable def he_Future_judge_72 (d : Nat)  (μ : hs_M) : Option (Option hs_V × hs_M) := hs_ev d 17 72 [none, none, none, none] [] μ
theorem hp_Future_judge : hs_prog 17 = (hs_k17, 4, 0) := rfl
set_option maxRecDepth 100000 in
theorem hq_Future_judge (d : Nat) (x1 : Int32) (x2 : Int32) (μ : hs_M)  : hc_Future_judge (d + 1) x1 x2 μ =
  hs_bI (hc_Int_bitCount d x2 μ) (fun r1 μ1 => hs_bI (hc_Int_bitCount d (μ1.1 0 0 12) μ1) (fun r2 μ2 => (if r1 < r2 then he_Future_judge_36 d x1 x2 μ2 else hs_bI (hc_Int_bitCount d x2 μ2) (fun r3 μ3 => hs_bI (hc_Int_bitCount d (μ3.1 0 0 12) μ3) (fun r4 μ4 => (if r3 = r4 then (if x2 < (μ4.1 0 0 12) then he_Future_judge_36 d x1 x2 μ4 else he_Future_judge_40 d x1 x2 μ4) else he_Future_judge_40 d x1 x2 μ4)))))) := by exact (hs_ev_go hp_Future_judge [36, 40, 62, 72] 40 0 _ [] μ).trans rfl
set_option maxRecDepth 100000 in
theorem hq_Future_judge_36 (d : Nat) (x1 : Int32) (x2 : Int32) (μ : hs_M)  : he_Future_judge_36 d x1 x2 μ =
  (if (μ.1 0 0 11) < x1 then he_Future_judge_62 d x1 x2 μ else (if x1 = (μ.1 0 0 11) then he_Future_judge_62 d x1 x2 μ else he_Future_judge_72 d μ)) := by exact (hs_ev_go hp_Future_judge [36, 40, 62, 72] 40 36 _ [] μ).trans rfl
set_option maxRecDepth 100000 in
theorem hq_Future_judge_40 (d : Nat) (x1 : Int32) (x2 : Int32) (μ : hs_M)  : he_Future_judge_40 d x1 x2 μ =
  (if (μ.1 0 0 11) < x1 then he_Future_judge_62 d x1 x2 μ else (if x1 = (μ.1 0 0 11) then he_Future_judge_72 d μ else he_Future_judge_72 d μ)) := by exact (hs_ev_go hp_Future_judge [36, 40, 62, 72] 40 40 _ [] μ).trans rfl
set_option maxRecDepth 100000 in
theorem hq_Future_judge_62 (d : Nat) (x1 : Int32) (x2 : Int32) (μ : hs_M)  : he_Future_judge_62 d x1 x2 μ =
  he_Future_judge_72 d (hs_wI (hs_wI μ 0 0 11 x1) 0 0 12 x2) := by exact (hs_ev_go hp_Future_judge [36, 40, 62, 72] 40 62 _ [] μ).trans rfl
set_option maxRecDepth 100000 in
theorem hq_Future_judge_72 (d : Nat)  (μ : hs_M)  : he_Future_judge_72 d  μ =
  some (none, μ) := by exact (hs_ev_go hp_Future_judge [36, 40, 62, 72] 40 72 _ [] μ).trans rfl
noncomputable def he_Future_rounds_2 (d : Nat) (x1 : Int32) (x2 : Int32) (x3 : Int32) (μ : hs_M) : Option (Option hs_V × hs_M) := hs_ev d 18 2 [some (vR 0 0), some (vI x1), some (vI x2), some (vI x3), none, none] [] μ
noncomputable def he_Future_rounds_30 (d : Nat) (x1 : Int32) (x2 : Int32) (x3 : Int32) (x4 : Int32) (μ : hs_M) : Option (Option hs_V × hs_M) := hs_ev d 18 30 [some (vR 0 0), some (vI x1), some (vI x2), some (vI x3), some (vI x4), none] [] μ
noncomputable def he_Future_rounds_60 (d : Nat) (x3 : Int32) (x4 : Int32) (μ : hs_M) : Option (Option hs_V × hs_M) := hs_ev d 18 60 [some (vR 0 0), none, none, some (vI x3), some (vI x4), none] [] μ
noncomputable def he_Future_rounds_79 (d : Nat) (x4 : Int32) (x5 : Int32) (μ : hs_M) : Option (Option hs_V × hs_M) := hs_ev d 18 79 [some (vR 0 0), none, none, none, some (vI x4), some (vI x5)] [] μ
theorem hp_Future_rounds : hs_prog 18 = (hs_k18, 6, 1) := rfl
set_option maxRecDepth 100000 in
theorem hq_Future_rounds (d : Nat) (x1 : Int32) (x2 : Int32) (μ : hs_M)  : hc_Future_rounds (d + 1) x1 x2 μ =
  he_Future_rounds_2 d x1 x2 (0 : Int32) μ := by exact (hs_ev_go hp_Future_rounds [2, 30, 60, 79] 65 0 _ [] μ).trans rfl
set_option maxRecDepth 100000 in
theorem hq_Future_rounds_2 (d : Nat) (x1 : Int32) (x2 : Int32) (x3 : Int32) (μ : hs_M)  : he_Future_rounds_2 d x1 x2 x3 μ =
  (if x3 < (8 : Int32) then (if hs_in x3 8 then he_Future_rounds_2 d x1 x2 (x3 + (1 : Int32)) (hs_wI μ 36 0 (x3.toNatClampNeg) (((1 : Int32) <<< (x1 &&& 31)) - (1 : Int32))) else none) else he_Future_rounds_30 d x1 x2 (0 : Int32) (0 : Int32) μ) := by exact (hs_ev_go hp_Future_rounds [2, 30, 60, 79] 65 2 _ [] μ).trans rfl
set_option maxRecDepth 100000 in
theorem hq_Future_rounds_30 (d : Nat) (x1 : Int32) (x2 : Int32) (x3 : Int32) (x4 : Int32) (μ : hs_M)  : he_Future_rounds_30 d x1 x2 x3 x4 μ =
  (if x4 < x2 then (if x3 = 0 then hs_bI (hc_Future_someoneTurns d x1 μ) (fun r1 μ1 => (if r1 = 0 then he_Future_rounds_30 d x1 x2 (1 : Int32) (x4 + (1 : Int32)) μ1 else he_Future_rounds_30 d x1 x2 (0 : Int32) (x4 + (1 : Int32)) μ1)) else he_Future_rounds_60 d x3 x4 μ) else he_Future_rounds_60 d x3 x4 μ) := by exact (hs_ev_go hp_Future_rounds [2, 30, 60, 79] 65 30 _ [] μ).trans rfl
set_option maxRecDepth 100000 in
theorem hq_Future_rounds_60 (d : Nat) (x3 : Int32) (x4 : Int32) (μ : hs_M)  : he_Future_rounds_60 d x3 x4 μ =
  (if x3 = 0 then hs_bV (hc_Row_begin d (0 : Int64) μ) (fun μ1 => he_Future_rounds_79 d x4 (0 : Int32) μ1) else hs_bV (hc_Row_begin d (1 : Int64) μ) (fun μ2 => he_Future_rounds_79 d x4 (0 : Int32) μ2)) := by exact (hs_ev_go hp_Future_rounds [2, 30, 60, 79] 65 60 _ [] μ).trans rfl
set_option maxRecDepth 100000 in
theorem hq_Future_rounds_79 (d : Nat) (x4 : Int32) (x5 : Int32) (μ : hs_M)  : he_Future_rounds_79 d x4 x5 μ =
  (if x5 < (μ.1 8 0 9) then (if hs_in x5 8 then hs_bV (hc_Row_add d ((μ.1 36 0 (x5.toNatClampNeg)).toInt64) μ) (fun μ1 => he_Future_rounds_79 d x4 (x5 + (1 : Int32)) μ1) else none) else some (some (vI x4), μ)) := by exact (hs_ev_go hp_Future_rounds [2, 30, 60, 79] 65 79 _ [] μ).trans rfl
noncomputable def he_Future_someoneTurns_4 (d : Nat) (x1 : Int32) (x2 : Int32) (x3 : Int32) (μ : hs_M) : Option (Option hs_V × hs_M) := hs_ev d 19 4 [some (vR 0 0), some (vI x1), some (vI x2), some (vI x3), none] [] μ
noncomputable def he_Future_someoneTurns_46 (d : Nat) (x1 : Int32) (x2 : Int32) (x3 : Int32) (x4 : Int32) (μ : hs_M) : Option (Option hs_V × hs_M) := hs_ev d 19 46 [some (vR 0 0), some (vI x1), some (vI x2), some (vI x3), some (vI x4)] [] μ
noncomputable def he_Future_someoneTurns_61 (d : Nat) (x1 : Int32) (x3 : Int32) (μ : hs_M) : Option (Option hs_V × hs_M) := hs_ev d 19 61 [some (vR 0 0), some (vI x1), none, some (vI x3), none] [] μ
theorem hp_Future_someoneTurns : hs_prog 19 = (hs_k19, 5, 3) := rfl
set_option maxRecDepth 100000 in
theorem hq_Future_someoneTurns (d : Nat) (x1 : Int32) (μ : hs_M)  : hc_Future_someoneTurns (d + 1) x1 μ =
  he_Future_someoneTurns_4 d x1 (0 : Int32) (0 : Int32) μ := by exact (hs_ev_go hp_Future_someoneTurns [4, 46, 61] 46 0 _ [] μ).trans rfl
set_option maxRecDepth 100000 in
theorem hq_Future_someoneTurns_4 (d : Nat) (x1 : Int32) (x2 : Int32) (x3 : Int32) (μ : hs_M)  : he_Future_someoneTurns_4 d x1 x2 x3 μ =
  (if x3 < (μ.1 8 0 9) then (if hs_in x3 8 then hs_bI (hc_State_lives d 0 x3 μ) (fun r1 μ1 => (if r1 = 0 then he_Future_someoneTurns_46 d x1 x2 x3 (μ.1 36 0 (x3.toNatClampNeg)) μ1 else hs_bI (hc_Future_bestReply d x3 x1 μ1) (fun r2 μ2 => (if hs_in x3 8 then he_Future_someoneTurns_46 d x1 x2 x3 (μ.1 36 0 (x3.toNatClampNeg)) (hs_wI μ2 36 0 (x3.toNatClampNeg) r2) else none)))) else none) else hs_rz x2 μ) := by exact (hs_ev_go hp_Future_someoneTurns [4, 46, 61] 46 4 _ [] μ).trans rfl
set_option maxRecDepth 100000 in
theorem hq_Future_someoneTurns_46 (d : Nat) (x1 : Int32) (x2 : Int32) (x3 : Int32) (x4 : Int32) (μ : hs_M)  : he_Future_someoneTurns_46 d x1 x2 x3 x4 μ =
  (if x2 = 0 then (if hs_in x3 8 then (if (μ.1 36 0 (x3.toNatClampNeg)) = x4 then he_Future_someoneTurns_4 d x1 (0 : Int32) (x3 + (1 : Int32)) μ else he_Future_someoneTurns_61 d x1 x3 μ) else none) else he_Future_someoneTurns_61 d x1 x3 μ) := by exact (hs_ev_go hp_Future_someoneTurns [4, 46, 61] 46 46 _ [] μ).trans rfl
set_option maxRecDepth 100000 in
theorem hq_Future_someoneTurns_61 (d : Nat) (x1 : Int32) (x3 : Int32) (μ : hs_M)  : he_Future_someoneTurns_61 d x1 x3 μ =
  he_Future_someoneTurns_4 d x1 (1 : Int32) (x3 + (1 : Int32)) μ := by exact (hs_ev_go hp_Future_someoneTurns [4, 46, 61] 46 61 _ [] μ).trans rfl
noncomputable def he_Future_bestReply_18 (d : Nat) (x1 : Int32) (x2 : Int32) (x3 : Int32) (x4 : Int32) (x5 : Int32) (μ : hs_M) : Option (Option hs_V × hs_M) := hs_ev d 20 18 [some (vR 0 0), some (vI x1), some (vI x2), some (vI x3), some (vI x4), some (vI x5), none] [] μ
noncomputable def he_Future_bestReply_62 (d : Nat) (x1 : Int32) (x2 : Int32) (x3 : Int32) (x4 : Int32) (x5 : Int32) (μ : hs_M) : Option (Option hs_V × hs_M) := hs_ev d 20 62 [some (vR 0 0), some (vI x1), some (vI x2), some (vI x3), some (vI x4), some (vI x5), none] [] μ
noncomputable def he_Future_bestReply_68 (d : Nat) (x3 : Int32) (μ : hs_M) : Option (Option hs_V × hs_M) := hs_ev d 20 68 [none, none, none, some (vI x3), none, none, none] [] μ
theorem hp_Future_bestReply : hs_prog 20 = (hs_k20, 7, 1) := rfl
set_option maxRecDepth 100000 in
theorem hq_Future_bestReply (d : Nat) (x1 : Int32) (x2 : Int32) (μ : hs_M)  : hc_Future_bestReply (d + 1) x1 x2 μ =
  (if hs_in x1 8 then hs_bI (hc_Future_weeksByPlans d x1 x2 μ) (fun r1 μ1 => he_Future_bestReply_18 d x1 x2 (μ.1 36 0 (x1.toNatClampNeg)) r1 (0 : Int32) μ1) else none) := by exact (hs_ev_go hp_Future_bestReply [18, 62, 68] 44 0 _ [] μ).trans rfl
set_option maxRecDepth 100000 in
theorem hq_Future_bestReply_18 (d : Nat) (x1 : Int32) (x2 : Int32) (x3 : Int32) (x4 : Int32) (x5 : Int32) (μ : hs_M)  : he_Future_bestReply_18 d x1 x2 x3 x4 x5 μ =
  (if x5 < ((1 : Int32) <<< (x2 &&& 31)) then (if x4 < x2 then (if hs_in x1 8 then hs_bI (hc_Future_weeksByPlans d x1 x2 (hs_wI μ 36 0 (x1.toNatClampNeg) x5)) (fun r1 μ1 => (if x4 < r1 then he_Future_bestReply_62 d x1 x2 x5 r1 x5 μ1 else he_Future_bestReply_62 d x1 x2 x3 x4 x5 μ1)) else none) else he_Future_bestReply_68 d x3 μ) else he_Future_bestReply_68 d x3 μ) := by exact (hs_ev_go hp_Future_bestReply [18, 62, 68] 44 18 _ [] μ).trans rfl
set_option maxRecDepth 100000 in
theorem hq_Future_bestReply_62 (d : Nat) (x1 : Int32) (x2 : Int32) (x3 : Int32) (x4 : Int32) (x5 : Int32) (μ : hs_M)  : he_Future_bestReply_62 d x1 x2 x3 x4 x5 μ =
  he_Future_bestReply_18 d x1 x2 x3 x4 (x5 + (1 : Int32)) μ := by exact (hs_ev_go hp_Future_bestReply [18, 62, 68] 44 62 _ [] μ).trans rfl
set_option maxRecDepth 100000 in
theorem hq_Future_bestReply_68 (d : Nat) (x3 : Int32) (μ : hs_M)  : he_Future_bestReply_68 d x3 μ =
  some (some (vI x3), μ) := by exact (hs_ev_go hp_Future_bestReply [18, 62, 68] 44 68 _ [] μ).trans rfl
noncomputable def he_Future_weeksByPlans_13 (d : Nat) (x1 : Int32) (x2 : Int32) (x3 : Int32) (μ : hs_M) : Option (Option hs_V × hs_M) := hs_ev d 21 13 [some (vR 0 0), some (vI x1), some (vI x2), some (vI x3), none, none] [] μ
noncomputable def he_Future_weeksByPlans_24 (d : Nat) (x1 : Int32) (x2 : Int32) (x3 : Int32) (x4 : Int32) (x5 : Int32) (μ : hs_M) : Option (Option hs_V × hs_M) := hs_ev d 21 24 [some (vR 0 0), some (vI x1), some (vI x2), some (vI x3), some (vI x4), some (vI x5)] [] μ
theorem hp_Future_weeksByPlans : hs_prog 21 = (hs_k21, 6, 1) := rfl
set_option maxRecDepth 100000 in
theorem hq_Future_weeksByPlans (d : Nat) (x1 : Int32) (x2 : Int32) (μ : hs_M)  : hc_Future_weeksByPlans (d + 1) x1 x2 μ =
  hs_bV (hc_State_follow d 35 0 μ) (fun μ1 => he_Future_weeksByPlans_13 d x1 x2 (0 : Int32) μ1) := by exact (hs_ev_go hp_Future_weeksByPlans [13, 24] 55 0 _ [] μ).trans rfl
set_option maxRecDepth 100000 in
theorem hq_Future_weeksByPlans_13 (d : Nat) (x1 : Int32) (x2 : Int32) (x3 : Int32) (μ : hs_M)  : he_Future_weeksByPlans_13 d x1 x2 x3 μ =
  (if x3 < x2 then he_Future_weeksByPlans_24 d x1 x2 x3 (0 : Int32) (0 : Int32) μ else hs_bI (hc_Future_gain d x1 μ) (fun r1 μ1 => some (some (vI r1), μ1))) := by exact (hs_ev_go hp_Future_weeksByPlans [13, 24] 55 13 _ [] μ).trans rfl
set_option maxRecDepth 100000 in
theorem hq_Future_weeksByPlans_24 (d : Nat) (x1 : Int32) (x2 : Int32) (x3 : Int32) (x4 : Int32) (x5 : Int32) (μ : hs_M)  : he_Future_weeksByPlans_24 d x1 x2 x3 x4 x5 μ =
  (if x5 < (μ.1 8 0 9) then (if hs_in x5 8 then he_Future_weeksByPlans_24 d x1 x2 x3 (x4 ||| ((((μ.1 36 0 (x5.toNatClampNeg)) >>> (x3 &&& 31)) &&& (1 : Int32)) <<< (x5 &&& 31))) (x5 + (1 : Int32)) μ else none) else hs_bI (hc_Office_winner d 35 x4 (0 : Int32) μ) (fun r1 μ1 => hs_bV (hc_Office_finish d 35 r1 μ1) (fun μ2 => he_Future_weeksByPlans_13 d x1 x2 (x3 + (1 : Int32)) μ2))) := by exact (hs_ev_go hp_Future_weeksByPlans [13, 24] 55 24 _ [] μ).trans rfl
noncomputable def he_Future_strongestParty_23 (d : Nat) (x2 : Int32) (x3 : Int32) (x4 : Int32) (μ : hs_M) : Option (Option hs_V × hs_M) := hs_ev d 22 23 [some (vR 0 0), none, some (vI x2), some (vI x3), some (vI x4), none] [] μ
noncomputable def he_Future_strongestParty_59 (d : Nat) (x2 : Int32) (x3 : Int32) (x4 : Int32) (μ : hs_M) : Option (Option hs_V × hs_M) := hs_ev d 22 59 [some (vR 0 0), none, some (vI x2), some (vI x3), some (vI x4), none] [] μ
theorem hp_Future_strongestParty : hs_prog 22 = (hs_k22, 6, 1) := rfl
set_option maxRecDepth 100000 in
theorem hq_Future_strongestParty (d : Nat) (x1 : Int32) (μ : hs_M)  : hc_Future_strongestParty (d + 1) x1 μ =
  hs_bV (hc_Future_run d x1 (255 : Int32) μ) (fun μ1 => he_Future_strongestParty_23 d (-1 : Int32) (0 : Int32) (0 : Int32) (hs_wI μ1 4 0 1 (0 : Int32))) := by exact (hs_ev_go hp_Future_strongestParty [23, 59] 46 0 _ [] μ).trans rfl
set_option maxRecDepth 100000 in
theorem hq_Future_strongestParty_23 (d : Nat) (x2 : Int32) (x3 : Int32) (x4 : Int32) (μ : hs_M)  : he_Future_strongestParty_23 d x2 x3 x4 μ =
  (if x4 < (4 : Int32) then hs_bI (hc_Future_gainOfParty d x4 μ) (fun r1 μ1 => hs_bV (hc_Row_add d (r1.toInt64) μ1) (fun μ2 => (if x3 < r1 then he_Future_strongestParty_59 d x4 r1 x4 μ2 else he_Future_strongestParty_59 d x2 x3 x4 μ2))) else hs_bI (hc_Future_gainers d μ) (fun r3 μ3 => hs_bV (hc_Row_add d (r3.toInt64) μ3) (fun μ4 => some (some (vI x2), μ4)))) := by exact (hs_ev_go hp_Future_strongestParty [23, 59] 46 23 _ [] μ).trans rfl
set_option maxRecDepth 100000 in
theorem hq_Future_strongestParty_59 (d : Nat) (x2 : Int32) (x3 : Int32) (x4 : Int32) (μ : hs_M)  : he_Future_strongestParty_59 d x2 x3 x4 μ =
  he_Future_strongestParty_23 d x2 x3 (x4 + (1 : Int32)) μ := by exact (hs_ev_go hp_Future_strongestParty [23, 59] 46 59 _ [] μ).trans rfl
noncomputable def he_Future_gainers_4 (d : Nat) (x1 : Int32) (x2 : Int32) (μ : hs_M) : Option (Option hs_V × hs_M) := hs_ev d 23 4 [some (vR 0 0), some (vI x1), some (vI x2)] [] μ
noncomputable def he_Future_gainers_29 (d : Nat) (x1 : Int32) (x2 : Int32) (μ : hs_M) : Option (Option hs_V × hs_M) := hs_ev d 23 29 [some (vR 0 0), some (vI x1), some (vI x2)] [] μ
theorem hp_Future_gainers : hs_prog 23 = (hs_k23, 3, 1) := rfl
set_option maxRecDepth 100000 in
theorem hq_Future_gainers (d : Nat)  (μ : hs_M)  : hc_Future_gainers (d + 1)  μ =
  he_Future_gainers_4 d (0 : Int32) (0 : Int32) μ := by exact (hs_ev_go hp_Future_gainers [4, 29] 26 0 _ [] μ).trans rfl
set_option maxRecDepth 100000 in
theorem hq_Future_gainers_4 (d : Nat) (x1 : Int32) (x2 : Int32) (μ : hs_M)  : he_Future_gainers_4 d x1 x2 μ =
  (if x2 < (μ.1 8 0 9) then hs_bI (hc_Future_gain d x2 μ) (fun r1 μ1 => (if 0 < r1 then he_Future_gainers_29 d (x1 ||| ((1 : Int32) <<< (x2 &&& 31))) x2 μ1 else he_Future_gainers_29 d x1 x2 μ1)) else some (some (vI x1), μ)) := by exact (hs_ev_go hp_Future_gainers [4, 29] 26 4 _ [] μ).trans rfl
set_option maxRecDepth 100000 in
theorem hq_Future_gainers_29 (d : Nat) (x1 : Int32) (x2 : Int32) (μ : hs_M)  : he_Future_gainers_29 d x1 x2 μ =
  he_Future_gainers_4 d x1 (x2 + (1 : Int32)) μ := by exact (hs_ev_go hp_Future_gainers [4, 29] 26 29 _ [] μ).trans rfl
noncomputable def he_Future_takingTurns_41 (d : Nat) (x1 : Int32) (x2 : Int32) (x3 : Int32) (x4 : Int32) (x5 : Int32) (x6 : Int32) (μ : hs_M) : Option (Option hs_V × hs_M) := hs_ev d 24 41 [some (vR 0 0), some (vI x1), some (vI x2), some (vI x3), some (vI x4), some (vI x5), some (vI x6)] [] μ
theorem hp_Future_takingTurns : hs_prog 24 = (hs_k24, 7, 1) := rfl
set_option maxRecDepth 100000 in
theorem hq_Future_takingTurns (d : Nat) (x1 : Int32) (x2 : Int32) (μ : hs_M)  : hc_Future_takingTurns (d + 1) x1 x2 μ =
  hs_bV (hc_Future_run d x2 (255 : Int32) μ) (fun μ1 => hs_bI (hc_Future_gainOfParty d x1 μ1) (fun r2 μ2 => hs_bI (hc_Town_ofParty d x1 μ2) (fun r3 μ3 => hs_bV (hc_State_follow d 35 0 μ3) (fun μ4 => he_Future_takingTurns_41 d x1 x2 r2 r3 (-1 : Int32) (0 : Int32) μ4)))) := by exact (hs_ev_go hp_Future_takingTurns [41] 68 0 _ [] μ).trans rfl
set_option maxRecDepth 100000 in
theorem hq_Future_takingTurns_41 (d : Nat) (x1 : Int32) (x2 : Int32) (x3 : Int32) (x4 : Int32) (x5 : Int32) (x6 : Int32) (μ : hs_M)  : he_Future_takingTurns_41 d x1 x2 x3 x4 x5 x6 μ =
  (if x6 < x2 then hs_bI (hc_Future_nextOf d (x4 &&& (μ.1 6 0 3)) x5 μ) (fun r1 μ1 => (if r1 < 0 then hs_bV (hc_Office_pass d 35 (0 : Int32) ((255 : Int32) &&& (x4 ^^^ (-1 : Int32))) μ1) (fun μ2 => he_Future_takingTurns_41 d x1 x2 x3 x4 r1 (x6 + (1 : Int32)) μ2) else hs_bV (hc_Office_pass d 35 ((1 : Int32) <<< (r1 &&& 31)) ((255 : Int32) &&& (x4 ^^^ (-1 : Int32))) μ1) (fun μ3 => he_Future_takingTurns_41 d x1 x2 x3 x4 r1 (x6 + (1 : Int32)) μ3))) else hs_bI (hc_Future_gainOfParty d x1 μ) (fun r4 μ4 => hs_bV (hc_Row_begin d ((r4 - x3).toInt64) μ4) (fun μ5 => some (some (vI r4), μ5)))) := by exact (hs_ev_go hp_Future_takingTurns [41] 68 41 _ [] μ).trans rfl
noncomputable def he_Future_nextOf_2 (d : Nat) (x0 : Int32) (x1 : Int32) (x2 : Int32) (μ : hs_M) : Option (Option hs_V × hs_M) := hs_ev d 25 2 [some (vI x0), some (vI x1), some (vI x2), none] [] μ
theorem hp_Future_nextOf : hs_prog 25 = (hs_k25, 4, 1) := rfl
set_option maxRecDepth 100000 in
theorem hq_Future_nextOf (d : Nat) (x0 : Int32) (x1 : Int32) (μ : hs_M)  : hc_Future_nextOf (d + 1) x0 x1 μ =
  he_Future_nextOf_2 d x0 x1 (1 : Int32) μ := by exact (hs_ev_go hp_Future_nextOf [2] 26 0 _ [] μ).trans rfl
set_option maxRecDepth 100000 in
theorem hq_Future_nextOf_2 (d : Nat) (x0 : Int32) (x1 : Int32) (x2 : Int32) (μ : hs_M)  : he_Future_nextOf_2 d x0 x1 x2 μ =
  (if (8 : Int32) < x2 then some (some (vI (-1 : Int32)), μ) else (if ((x0 >>> (((x1 + x2) - (x1 + x2) / (8 : Int32) * (8 : Int32)) &&& 31)) &&& (1 : Int32)) = 0 then he_Future_nextOf_2 d x0 x1 (x2 + (1 : Int32)) μ else some (some (vI ((x1 + x2) - (x1 + x2) / (8 : Int32) * (8 : Int32))), μ))) := by exact (hs_ev_go hp_Future_nextOf [2] 26 2 _ [] μ).trans rfl
theorem hp_Future_foolsWorth : hs_prog 26 = (hs_k26, 6, 1) := rfl
set_option maxRecDepth 100000 in
theorem hq_Future_foolsWorth (d : Nat) (x1 : Int32) (x2 : Int32) (μ : hs_M)  : hc_Future_foolsWorth (d + 1) x1 x2 μ =
  (if hs_in x1 8 then hs_bV (hc_Future_run d x2 (255 : Int32) μ) (fun μ1 => hs_bI (hc_Future_gainOfParty d (μ.1 15 0 (x1.toNatClampNeg)) μ1) (fun r2 μ2 => hs_bV (hc_Future_run d x2 ((255 : Int32) &&& (((1 : Int32) <<< (x1 &&& 31)) ^^^ (-1 : Int32))) μ2) (fun μ3 => hs_bI (hc_Future_gainOfParty d (μ.1 15 0 (x1.toNatClampNeg)) μ3) (fun r4 μ4 => hs_bV (hc_Row_begin d (r2.toInt64) μ4) (fun μ5 => hs_bV (hc_Row_add d (r4.toInt64) μ5) (fun μ6 => some (some (vI (r2 - r4)), μ6))))))) else none) := by exact (hs_ev_go hp_Future_foolsWorth [] 45 0 _ [] μ).trans rfl
noncomputable def he_Future_tellChance_85 (d : Nat)  (μ : hs_M) : Option (Option hs_V × hs_M) := hs_ev d 27 85 [none, none, none] [] μ
theorem hp_Future_tellChance : hs_prog 27 = (hs_k27, 3, 0) := rfl
set_option maxRecDepth 100000 in
theorem hq_Future_tellChance (d : Nat) (x1 : Int32) (x2 : Int32) (μ : hs_M)  : hc_Future_tellChance (d + 1) x1 x2 μ =
  (if x2 = 0 then (if (μ.1 6 0 1) = x1 then hs_bV (hc_Row_fraction d (1 : Int64) (1 : Int64) μ) (fun μ1 => some (none, μ1)) else hs_bV (hc_Row_fraction d (0 : Int64) (1 : Int64) μ) (fun μ2 => some (none, μ2))) else hs_bV (hc_Office_shares d 0 37 μ) (fun μ3 => (if x2 = (1 : Int32) then (if hs_in ((1 : Int32) + x1) 9 then hs_bV (hc_Row_fraction d (μ3.2 37 0 (((1 : Int32) + x1).toNatClampNeg)) (100000000 : Int64) μ3) (fun μ4 => he_Future_tellChance_85 d μ4) else none) else hs_bL (hc_Future_chanceInTwo d x1 μ3) (fun r5 μ5 => hs_bV (hc_Row_fraction d r5 (10000000000000000 : Int64) μ5) (fun μ6 => he_Future_tellChance_85 d μ6))))) := by exact (hs_ev_go hp_Future_tellChance [85] 47 0 _ [] μ).trans rfl
set_option maxRecDepth 100000 in
theorem hq_Future_tellChance_85 (d : Nat)  (μ : hs_M)  : he_Future_tellChance_85 d  μ =
  some (none, μ) := by exact (hs_ev_go hp_Future_tellChance [85] 47 85 _ [] μ).trans rfl
noncomputable def he_Future_chanceInTwo_5 (d : Nat) (x1 : Int32) (x2 : Int64) (x4 : Int32) (μ : hs_M) : Option (Option hs_V × hs_M) := hs_ev d 28 5 [some (vR 0 0), some (vI x1), some (vL x2), none, some (vI x4)] [] μ
noncomputable def he_Future_chanceInTwo_107 (d : Nat) (x1 : Int32) (x2 : Int64) (x4 : Int32) (μ : hs_M) : Option (Option hs_V × hs_M) := hs_ev d 28 107 [some (vR 0 0), some (vI x1), some (vL x2), none, some (vI x4)] [] μ
theorem hp_Future_chanceInTwo : hs_prog 28 = (hs_k28, 5, 2) := rfl
set_option maxRecDepth 100000 in
theorem hq_Future_chanceInTwo (d : Nat) (x1 : Int32) (μ : hs_M)  : hc_Future_chanceInTwo (d + 1) x1 μ =
  he_Future_chanceInTwo_5 d x1 (0 : Int64) (0 : Int32) μ := by exact (hs_ev_go hp_Future_chanceInTwo [5, 107] 66 0 _ [] μ).trans rfl
set_option maxRecDepth 100000 in
theorem hq_Future_chanceInTwo_5 (d : Nat) (x1 : Int32) (x2 : Int64) (x4 : Int32) (μ : hs_M)  : he_Future_chanceInTwo_5 d x1 x2 x4 μ =
  (if (μ.1 8 0 9) < x4 then some (some (vL x2), μ) else (if hs_in x4 9 then (if 0 < (lg_cmp (μ.2 37 0 (x4.toNatClampNeg)) (0 : Int64)) then hs_bV (hc_State_follow d 35 0 μ) (fun μ1 => (if (x4 - (1 : Int32)) = (μ1.1 6 0 1) then hs_bV (hc_Office_finish d 35 (-1 : Int32) μ1) (fun μ2 => hs_bV (hc_Office_shares d 35 38 μ2) (fun μ3 => (if hs_in x4 9 then (if hs_in ((1 : Int32) + x1) 9 then he_Future_chanceInTwo_107 d x1 (x2 + ((μ3.2 37 0 (x4.toNatClampNeg)) * (μ3.2 38 0 (((1 : Int32) + x1).toNatClampNeg)))) x4 μ3 else none) else none))) else hs_bV (hc_Office_finish d 35 (x4 - (1 : Int32)) μ1) (fun μ4 => hs_bV (hc_Office_shares d 35 38 μ4) (fun μ5 => (if hs_in x4 9 then (if hs_in ((1 : Int32) + x1) 9 then he_Future_chanceInTwo_107 d x1 (x2 + ((μ5.2 37 0 (x4.toNatClampNeg)) * (μ5.2 38 0 (((1 : Int32) + x1).toNatClampNeg)))) x4 μ5 else none) else none))))) else he_Future_chanceInTwo_107 d x1 x2 x4 μ) else none)) := by exact (hs_ev_go hp_Future_chanceInTwo [5, 107] 66 5 _ [] μ).trans rfl
set_option maxRecDepth 100000 in
theorem hq_Future_chanceInTwo_107 (d : Nat) (x1 : Int32) (x2 : Int64) (x4 : Int32) (μ : hs_M)  : he_Future_chanceInTwo_107 d x1 x2 x4 μ =
  he_Future_chanceInTwo_5 d x1 x2 (x4 + (1 : Int32)) μ := by exact (hs_ev_go hp_Future_chanceInTwo [5, 107] 66 107 _ [] μ).trans rfl
noncomputable def he_Future_likeliest_19 (d : Nat) (x1 : Int32) (x2 : Int32) (μ : hs_M) : Option (Option hs_V × hs_M) := hs_ev d 29 19 [some (vR 0 0), some (vI x1), some (vI x2)] [] μ
noncomputable def he_Future_likeliest_48 (d : Nat) (x1 : Int32) (x2 : Int32) (μ : hs_M) : Option (Option hs_V × hs_M) := hs_ev d 29 48 [some (vR 0 0), some (vI x1), some (vI x2)] [] μ
theorem hp_Future_likeliest : hs_prog 29 = (hs_k29, 3, 1) := rfl
set_option maxRecDepth 100000 in
theorem hq_Future_likeliest (d : Nat)  (μ : hs_M)  : hc_Future_likeliest (d + 1)  μ =
  hs_bV (hc_Office_shares d 0 37 μ) (fun μ1 => he_Future_likeliest_19 d (0 : Int32) (1 : Int32) μ1) := by exact (hs_ev_go hp_Future_likeliest [19, 48] 45 0 _ [] μ).trans rfl
set_option maxRecDepth 100000 in
theorem hq_Future_likeliest_19 (d : Nat) (x1 : Int32) (x2 : Int32) (μ : hs_M)  : he_Future_likeliest_19 d x1 x2 μ =
  (if (μ.1 8 0 9) < x2 then (if hs_in x1 9 then hs_bV (hc_Row_fraction d (μ.2 37 0 (x1.toNatClampNeg)) (100000000 : Int64) μ) (fun μ1 => some (some (vI (x1 - (1 : Int32))), μ1)) else none) else (if hs_in x2 9 then (if hs_in x1 9 then (if 0 < (lg_cmp (μ.2 37 0 (x2.toNatClampNeg)) (μ.2 37 0 (x1.toNatClampNeg))) then he_Future_likeliest_48 d x2 x2 μ else he_Future_likeliest_48 d x1 x2 μ) else none) else none)) := by exact (hs_ev_go hp_Future_likeliest [19, 48] 45 19 _ [] μ).trans rfl
set_option maxRecDepth 100000 in
theorem hq_Future_likeliest_48 (d : Nat) (x1 : Int32) (x2 : Int32) (μ : hs_M)  : he_Future_likeliest_48 d x1 x2 μ =
  he_Future_likeliest_19 d x1 (x2 + (1 : Int32)) μ := by exact (hs_ev_go hp_Future_likeliest [19, 48] 45 48 _ [] μ).trans rfl
theorem hp_Office_pass : hs_prog 30 = (hs_k30, 4, 0) := rfl
set_option maxRecDepth 100000 in
theorem hq_Office_pass (d : Nat) (j1 : Nat) (x2 : Int32) (x3 : Int32) (μ : hs_M)  : hc_Office_pass (d + 1) j1 x2 x3 μ =
  hs_bI (hc_Office_winner d j1 x2 x3 μ) (fun r1 μ1 => hs_bV (hc_Office_finish d j1 r1 μ1) (fun μ2 => some (none, μ2))) := by exact (hs_ev_go hp_Office_pass [] 12 0 _ [] μ).trans rfl
theorem hp_Office_finish : hs_prog 31 = (hs_k31, 3, 0) := rfl
set_option maxRecDepth 100000 in
theorem hq_Office_finish (d : Nat) (j1 : Nat) (x2 : Int32) (μ : hs_M)  : hc_Office_finish (d + 1) j1 x2 μ =
  hs_bV (hc_State_serveWeek d j1 x2 μ) (fun μ1 => hs_bV (hc_Town_changeWeights d j1 μ1) (fun μ2 => some (none, (hs_wI μ2 6 j1 0 ((μ2.1 6 j1 0) + (1 : Int32)))))) := by exact (hs_ev_go hp_Office_finish [] 17 0 _ [] μ).trans rfl
noncomputable def he_Office_winner_13 (d : Nat) (j1 : Nat) (x2 : Int32) (x3 : Int32) (x4 : Int32) (x5 : Int32) (x6 : Int32) (μ : hs_M) : Option (Option hs_V × hs_M) := hs_ev d 32 13 [some (vR 1 0), some (vR 6 j1), some (vI x2), some (vI x3), some (vI x4), some (vI x5), some (vI x6), none] [] μ
noncomputable def he_Office_winner_107 (d : Nat) (j1 : Nat) (x2 : Int32) (x3 : Int32) (x6 : Int32) (x7 : Int32) (μ : hs_M) : Option (Option hs_V × hs_M) := hs_ev d 32 107 [some (vR 1 0), some (vR 6 j1), some (vI x2), some (vI x3), none, none, some (vI x6), some (vI x7)] [] μ
noncomputable def he_Office_winner_115 (d : Nat) (j1 : Nat) (x2 : Int32) (x3 : Int32) (x4 : Int32) (x5 : Int32) (x6 : Int32) (μ : hs_M) : Option (Option hs_V × hs_M) := hs_ev d 32 115 [some (vR 1 0), some (vR 6 j1), some (vI x2), some (vI x3), some (vI x4), some (vI x5), some (vI x6), none] [] μ
theorem hp_Office_winner : hs_prog 32 = (hs_k32, 8, 1) := rfl
set_option maxRecDepth 100000 in
theorem hq_Office_winner (d : Nat) (j1 : Nat) (x2 : Int32) (x3 : Int32) (μ : hs_M)  : hc_Office_winner (d + 1) j1 x2 x3 μ =
  hs_bI (hc_Office_shownOfServer d j1 μ) (fun r1 μ1 => he_Office_winner_13 d j1 x2 x3 (-1 : Int32) r1 (0 : Int32) μ1) := by exact (hs_ev_go hp_Office_winner [13, 107, 115] 65 0 _ [] μ).trans rfl
set_option maxRecDepth 100000 in
theorem hq_Office_winner_13 (d : Nat) (j1 : Nat) (x2 : Int32) (x3 : Int32) (x4 : Int32) (x5 : Int32) (x6 : Int32) (μ : hs_M)  : he_Office_winner_13 d j1 x2 x3 x4 x5 x6 μ =
  (if x6 < (μ.1 8 0 9) then (if x6 = (μ.1 6 j1 1) then he_Office_winner_115 d j1 x2 x3 x4 x5 x6 μ else hs_bI (hc_State_lives d j1 x6 μ) (fun r1 μ1 => (if r1 = 0 then he_Office_winner_115 d j1 x2 x3 x4 x5 x6 μ1 else (if hs_in x6 8 then hs_bI (hc_Scale_shows d (μ1.1 24 j1 (x6.toNatClampNeg)) μ1) (fun r2 μ2 => (if x5 < r2 then (if ((x2 >>> (x6 &&& 31)) &&& (1 : Int32)) = 0 then (if ((x3 >>> (x6 &&& 31)) &&& (1 : Int32)) = 0 then he_Office_winner_115 d j1 x2 x3 x4 x5 x6 μ2 else hs_bI (hc_Will_value d j1 x6 μ2) (fun r3 μ3 => (if r3 = 0 then he_Office_winner_115 d j1 x2 x3 x4 x5 x6 μ3 else he_Office_winner_107 d j1 x2 x3 x6 r2 μ3))) else he_Office_winner_107 d j1 x2 x3 x6 r2 μ2) else he_Office_winner_115 d j1 x2 x3 x4 x5 x6 μ2)) else none)))) else some (some (vI x4), μ)) := by exact (hs_ev_go hp_Office_winner [13, 107, 115] 65 13 _ [] μ).trans rfl
set_option maxRecDepth 100000 in
theorem hq_Office_winner_107 (d : Nat) (j1 : Nat) (x2 : Int32) (x3 : Int32) (x6 : Int32) (x7 : Int32) (μ : hs_M)  : he_Office_winner_107 d j1 x2 x3 x6 x7 μ =
  he_Office_winner_115 d j1 x2 x3 x6 x7 x6 μ := by exact (hs_ev_go hp_Office_winner [13, 107, 115] 65 107 _ [] μ).trans rfl
set_option maxRecDepth 100000 in
theorem hq_Office_winner_115 (d : Nat) (j1 : Nat) (x2 : Int32) (x3 : Int32) (x4 : Int32) (x5 : Int32) (x6 : Int32) (μ : hs_M)  : he_Office_winner_115 d j1 x2 x3 x4 x5 x6 μ =
  he_Office_winner_13 d j1 x2 x3 x4 x5 (x6 + (1 : Int32)) μ := by exact (hs_ev_go hp_Office_winner [13, 107, 115] 65 115 _ [] μ).trans rfl
