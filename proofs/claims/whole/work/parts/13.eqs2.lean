/-! ===== the equations of the methods, 2 ===== -/
theorem hp_Office_shownOfServer : hs_prog 33 = (hs_k33, 2, 1) := rfl
set_option maxRecDepth 100000 in
theorem hq_Office_shownOfServer (d : Nat) (j1 : Nat) (μ : hs_M)  : hc_Office_shownOfServer (d + 1) j1 μ =
  (if (μ.1 6 j1 1) < 0 then some (some (vI (-1 : Int32)), μ) else (if hs_in (μ.1 6 j1 1) 8 then hs_bI (hc_Scale_shows d (μ.1 24 j1 ((μ.1 6 j1 1).toNatClampNeg)) μ) (fun r1 μ1 => some (some (vI r1), μ1)) else none)) := by exact (hs_ev_go hp_Office_shownOfServer [] 17 0 _ [] μ).trans rfl
noncomputable def he_Office_shares_9 (d : Nat) (j1 : Nat) (κ2 : Nat) (x3 : Int32) (x4 : Int32) (μ : hs_M) : Option (Option hs_V × hs_M) := hs_ev d 34 9 [some (vR 1 0), some (vR 6 j1), some (vR κ2 0), some (vI x3), some (vI x4), none, none, none, none] [] μ
noncomputable def he_Office_shares_35 (d : Nat) (j1 : Nat) (κ2 : Nat) (x3 : Int32) (x4 : Int64) (x6 : Int32) (μ : hs_M) : Option (Option hs_V × hs_M) := hs_ev d 34 35 [some (vR 1 0), some (vR 6 j1), some (vR κ2 0), some (vI x3), some (vL x4), none, some (vI x6), none, none] [] μ
noncomputable def he_Office_shares_112 (d : Nat) (j1 : Nat) (κ2 : Nat) (x4 : Int64) (μ : hs_M) : Option (Option hs_V × hs_M) := hs_ev d 34 112 [none, some (vR 6 j1), some (vR κ2 0), none, some (vL x4), none, none, none, none] [] μ
theorem hp_Office_shares : hs_prog 34 = (hs_k34, 9, 0) := rfl
set_option maxRecDepth 100000 in
theorem hq_Office_shares (d : Nat) (j1 : Nat) (κ2 : Nat) (μ : hs_M) (hκ2 : κ2 = 37 ∨ κ2 = 38) : hc_Office_shares (d + 1) j1 κ2 μ =
  hs_bI (hc_Office_heavierWho d j1 μ) (fun r1 μ1 => he_Office_shares_9 d j1 κ2 r1 (0 : Int32) μ1) := by rcases hκ2 with rfl | rfl <;> exact (hs_ev_go hp_Office_shares [9, 35, 112] 80 0 _ [] μ).trans rfl
set_option maxRecDepth 100000 in
theorem hq_Office_shares_9 (d : Nat) (j1 : Nat) (κ2 : Nat) (x3 : Int32) (x4 : Int32) (μ : hs_M) (hκ2 : κ2 = 37 ∨ κ2 = 38) : he_Office_shares_9 d j1 κ2 x3 x4 μ =
  (if x4 < (9 : Int32) then (if hs_in x4 9 then he_Office_shares_9 d j1 κ2 x3 (x4 + (1 : Int32)) (hs_wL μ κ2 0 (x4.toNatClampNeg) (0 : Int64)) else none) else he_Office_shares_35 d j1 κ2 x3 (100000000 : Int64) (0 : Int32) μ) := by rcases hκ2 with rfl | rfl <;> exact (hs_ev_go hp_Office_shares [9, 35, 112] 80 9 _ [] μ).trans rfl
set_option maxRecDepth 100000 in
theorem hq_Office_shares_35 (d : Nat) (j1 : Nat) (κ2 : Nat) (x3 : Int32) (x4 : Int64) (x6 : Int32) (μ : hs_M) (hκ2 : κ2 = 37 ∨ κ2 = 38) : he_Office_shares_35 d j1 κ2 x3 x4 x6 μ =
  (if x6 < (8 : Int32) then (if x3 = 0 then he_Office_shares_112 d j1 κ2 x4 μ else hs_bI (hc_Office_heaviestOf d j1 x3 μ) (fun r1 μ1 => (if hs_in r1 8 then (if hs_in ((1 : Int32) + r1) 9 then he_Office_shares_35 d j1 κ2 (x3 &&& (((1 : Int32) <<< (r1 &&& 31)) ^^^ (-1 : Int32))) ((x4 / (10 : Int64)) * ((μ1.1 16 0 (r1.toNatClampNeg)).toInt64)) (x6 + (1 : Int32)) (hs_wL μ1 κ2 0 (((1 : Int32) + r1).toNatClampNeg) ((x4 / (10 : Int64)) * (((10 : Int32) - (μ1.1 16 0 (r1.toNatClampNeg))).toInt64))) else none) else none))) else he_Office_shares_112 d j1 κ2 x4 μ) := by rcases hκ2 with rfl | rfl <;> exact (hs_ev_go hp_Office_shares [9, 35, 112] 80 35 _ [] μ).trans rfl
set_option maxRecDepth 100000 in
theorem hq_Office_shares_112 (d : Nat) (j1 : Nat) (κ2 : Nat) (x4 : Int64) (μ : hs_M) (hκ2 : κ2 = 37 ∨ κ2 = 38) : he_Office_shares_112 d j1 κ2 x4 μ =
  (if hs_in ((1 : Int32) + (μ.1 6 j1 1)) 9 then (if hs_in ((1 : Int32) + (μ.1 6 j1 1)) 9 then some (none, (hs_wL μ κ2 0 (((1 : Int32) + (μ.1 6 j1 1)).toNatClampNeg) ((μ.2 κ2 0 (((1 : Int32) + (μ.1 6 j1 1)).toNatClampNeg)) + x4))) else none) else none) := by rcases hκ2 with rfl | rfl <;> exact (hs_ev_go hp_Office_shares [9, 35, 112] 80 112 _ [] μ).trans rfl
noncomputable def he_Office_heavierWho_11 (d : Nat) (j1 : Nat) (x2 : Int32) (x3 : Int32) (x4 : Int32) (μ : hs_M) : Option (Option hs_V × hs_M) := hs_ev d 35 11 [some (vR 1 0), some (vR 6 j1), some (vI x2), some (vI x3), some (vI x4)] [] μ
noncomputable def he_Office_heavierWho_83 (d : Nat) (j1 : Nat) (x2 : Int32) (x3 : Int32) (x4 : Int32) (μ : hs_M) : Option (Option hs_V × hs_M) := hs_ev d 35 83 [some (vR 1 0), some (vR 6 j1), some (vI x2), some (vI x3), some (vI x4)] [] μ
theorem hp_Office_heavierWho : hs_prog 35 = (hs_k35, 5, 1) := rfl
set_option maxRecDepth 100000 in
theorem hq_Office_heavierWho (d : Nat) (j1 : Nat) (μ : hs_M)  : hc_Office_heavierWho (d + 1) j1 μ =
  hs_bI (hc_Office_shownOfServer d j1 μ) (fun r1 μ1 => he_Office_heavierWho_11 d j1 (0 : Int32) r1 (0 : Int32) μ1) := by exact (hs_ev_go hp_Office_heavierWho [11, 83] 51 0 _ [] μ).trans rfl
set_option maxRecDepth 100000 in
theorem hq_Office_heavierWho_11 (d : Nat) (j1 : Nat) (x2 : Int32) (x3 : Int32) (x4 : Int32) (μ : hs_M)  : he_Office_heavierWho_11 d j1 x2 x3 x4 μ =
  (if x4 < (μ.1 8 0 9) then (if x4 = (μ.1 6 j1 1) then he_Office_heavierWho_83 d j1 x2 x3 x4 μ else hs_bI (hc_State_lives d j1 x4 μ) (fun r1 μ1 => (if r1 = 0 then he_Office_heavierWho_83 d j1 x2 x3 x4 μ1 else (if hs_in x4 8 then hs_bI (hc_Scale_shows d (μ1.1 24 j1 (x4.toNatClampNeg)) μ1) (fun r2 μ2 => (if x3 < r2 then hs_bI (hc_Will_value d j1 x4 μ2) (fun r3 μ3 => (if r3 = 0 then he_Office_heavierWho_83 d j1 x2 x3 x4 μ3 else he_Office_heavierWho_83 d j1 (x2 ||| ((1 : Int32) <<< (x4 &&& 31))) x3 x4 μ3)) else he_Office_heavierWho_83 d j1 x2 x3 x4 μ2)) else none)))) else some (some (vI x2), μ)) := by exact (hs_ev_go hp_Office_heavierWho [11, 83] 51 11 _ [] μ).trans rfl
set_option maxRecDepth 100000 in
theorem hq_Office_heavierWho_83 (d : Nat) (j1 : Nat) (x2 : Int32) (x3 : Int32) (x4 : Int32) (μ : hs_M)  : he_Office_heavierWho_83 d j1 x2 x3 x4 μ =
  he_Office_heavierWho_11 d j1 x2 x3 (x4 + (1 : Int32)) μ := by exact (hs_ev_go hp_Office_heavierWho [11, 83] 51 83 _ [] μ).trans rfl
noncomputable def he_Office_heaviestOf_8 (d : Nat) (j1 : Nat) (x2 : Int32) (x3 : Int32) (x4 : Int32) (x5 : Int32) (μ : hs_M) : Option (Option hs_V × hs_M) := hs_ev d 36 8 [some (vR 1 0), some (vR 6 j1), some (vI x2), some (vI x3), some (vI x4), some (vI x5)] [] μ
noncomputable def he_Office_heaviestOf_62 (d : Nat) (j1 : Nat) (x2 : Int32) (x3 : Int32) (x4 : Int32) (x5 : Int32) (μ : hs_M) : Option (Option hs_V × hs_M) := hs_ev d 36 62 [some (vR 1 0), some (vR 6 j1), some (vI x2), some (vI x3), some (vI x4), some (vI x5)] [] μ
theorem hp_Office_heaviestOf : hs_prog 36 = (hs_k36, 6, 1) := rfl
set_option maxRecDepth 100000 in
theorem hq_Office_heaviestOf (d : Nat) (j1 : Nat) (x2 : Int32) (μ : hs_M)  : hc_Office_heaviestOf (d + 1) j1 x2 μ =
  he_Office_heaviestOf_8 d j1 x2 (0 : Int32) (-1 : Int32) (0 : Int32) μ := by exact (hs_ev_go hp_Office_heaviestOf [8, 62] 41 0 _ [] μ).trans rfl
set_option maxRecDepth 100000 in
theorem hq_Office_heaviestOf_8 (d : Nat) (j1 : Nat) (x2 : Int32) (x3 : Int32) (x4 : Int32) (x5 : Int32) (μ : hs_M)  : he_Office_heaviestOf_8 d j1 x2 x3 x4 x5 μ =
  (if x5 < (8 : Int32) then (if ((x2 >>> (x5 &&& 31)) &&& (1 : Int32)) = 0 then he_Office_heaviestOf_62 d j1 x2 x3 x4 x5 μ else (if hs_in x5 8 then hs_bI (hc_Scale_shows d (μ.1 24 j1 (x5.toNatClampNeg)) μ) (fun r1 μ1 => (if x4 < r1 then (if hs_in x5 8 then hs_bI (hc_Scale_shows d (μ1.1 24 j1 (x5.toNatClampNeg)) μ1) (fun r2 μ2 => he_Office_heaviestOf_62 d j1 x2 x5 r2 x5 μ2) else none) else he_Office_heaviestOf_62 d j1 x2 x3 x4 x5 μ1)) else none)) else some (some (vI x3), μ)) := by exact (hs_ev_go hp_Office_heaviestOf [8, 62] 41 8 _ [] μ).trans rfl
set_option maxRecDepth 100000 in
theorem hq_Office_heaviestOf_62 (d : Nat) (j1 : Nat) (x2 : Int32) (x3 : Int32) (x4 : Int32) (x5 : Int32) (μ : hs_M)  : he_Office_heaviestOf_62 d j1 x2 x3 x4 x5 μ =
  he_Office_heaviestOf_8 d j1 x2 x3 x4 (x5 + (1 : Int32)) μ := by exact (hs_ev_go hp_Office_heaviestOf [8, 62] 41 62 _ [] μ).trans rfl
noncomputable def he_Pairs_append_19 (d : Nat)  (μ : hs_M) : Option (Option hs_V × hs_M) := hs_ev d 37 19 [none, none, none] [] μ
theorem hp_Pairs_append : hs_prog 37 = (hs_k37, 3, 1) := rfl
set_option maxRecDepth 100000 in
theorem hq_Pairs_append (d : Nat) (j0 : Nat) (x1 : Int32) (x2 : Int32) (μ : hs_M)  : hc_Pairs_append (d + 1) j0 x1 x2 μ =
  (if (μ.1 2 j0 2) < 0 then he_Pairs_append_19 d μ else (if (μ.1 2 j0 2) < (Int32.ofNat (hs_len μ 33 j0)) then (if hs_in (μ.1 2 j0 2) (hs_len μ 33 j0) then (if hs_in (μ.1 2 j0 2) (hs_len (hs_wI μ 33 j0 ((μ.1 2 j0 2).toNatClampNeg) x1) 34 j0) then some (some (vI ((hs_wI (hs_wI (hs_wI μ 33 j0 ((μ.1 2 j0 2).toNatClampNeg) x1) 34 j0 ((μ.1 2 j0 2).toNatClampNeg) x2) 2 j0 2 ((μ.1 2 j0 2) + (1 : Int32))).1 2 j0 2)), (hs_wI (hs_wI (hs_wI μ 33 j0 ((μ.1 2 j0 2).toNatClampNeg) x1) 34 j0 ((μ.1 2 j0 2).toNatClampNeg) x2) 2 j0 2 ((μ.1 2 j0 2) + (1 : Int32)))) else none) else none) else he_Pairs_append_19 d μ)) := by exact (hs_ev_go hp_Pairs_append [19] 35 0 _ [] μ).trans rfl
set_option maxRecDepth 100000 in
theorem hq_Pairs_append_19 (d : Nat)  (μ : hs_M)  : he_Pairs_append_19 d  μ =
  some (some (vI (-1 : Int32)), μ) := by exact (hs_ev_go hp_Pairs_append [19] 35 19 _ [] μ).trans rfl
noncomputable def he_Pairs_person_13 (d : Nat)  (μ : hs_M) : Option (Option hs_V × hs_M) := hs_ev d 38 13 [none, none] [] μ
theorem hp_Pairs_person : hs_prog 38 = (hs_k38, 2, 1) := rfl
set_option maxRecDepth 100000 in
theorem hq_Pairs_person (d : Nat) (j0 : Nat) (x1 : Int32) (μ : hs_M)  : hc_Pairs_person (d + 1) j0 x1 μ =
  (if x1 < 0 then he_Pairs_person_13 d μ else (if x1 < (Int32.ofNat (hs_len μ 33 j0)) then (if hs_in x1 (hs_len μ 33 j0) then some (some (vI (μ.1 33 j0 (x1.toNatClampNeg))), μ) else none) else he_Pairs_person_13 d μ)) := by exact (hs_ev_go hp_Pairs_person [13] 17 0 _ [] μ).trans rfl
set_option maxRecDepth 100000 in
theorem hq_Pairs_person_13 (d : Nat)  (μ : hs_M)  : he_Pairs_person_13 d  μ =
  some (some (vI (-1 : Int32)), μ) := by exact (hs_ev_go hp_Pairs_person [13] 17 13 _ [] μ).trans rfl
noncomputable def he_Pairs_value_13 (d : Nat)  (μ : hs_M) : Option (Option hs_V × hs_M) := hs_ev d 39 13 [none, none] [] μ
theorem hp_Pairs_value : hs_prog 39 = (hs_k39, 2, 1) := rfl
set_option maxRecDepth 100000 in
theorem hq_Pairs_value (d : Nat) (j0 : Nat) (x1 : Int32) (μ : hs_M)  : hc_Pairs_value (d + 1) j0 x1 μ =
  (if x1 < 0 then he_Pairs_value_13 d μ else (if x1 < (Int32.ofNat (hs_len μ 34 j0)) then (if hs_in x1 (hs_len μ 34 j0) then some (some (vI (μ.1 34 j0 (x1.toNatClampNeg))), μ) else none) else he_Pairs_value_13 d μ)) := by exact (hs_ev_go hp_Pairs_value [13] 17 0 _ [] μ).trans rfl
set_option maxRecDepth 100000 in
theorem hq_Pairs_value_13 (d : Nat)  (μ : hs_M)  : he_Pairs_value_13 d  μ =
  some (some (vI (-1 : Int32)), μ) := by exact (hs_ev_go hp_Pairs_value [13] 17 13 _ [] μ).trans rfl
noncomputable def he_Past_remember_32 (d : Nat) (j1 : Nat) (μ : hs_M) : Option (Option hs_V × hs_M) := hs_ev d 40 32 [some (vR 3 0), some (vR 6 j1)] [] μ
theorem hp_Past_remember : hs_prog 40 = (hs_k40, 2, 0) := rfl
set_option maxRecDepth 100000 in
theorem hq_Past_remember (d : Nat) (j1 : Nat) (μ : hs_M)  : hc_Past_remember (d + 1) j1 μ =
  (if (μ.1 3 0 4) = (20 : Int32) then he_Past_remember_32 d j1 (hs_wI (hs_wI μ 3 0 3 (((μ.1 3 0 3) + (1 : Int32)) - ((μ.1 3 0 3) + (1 : Int32)) / (20 : Int32) * (20 : Int32))) 3 0 4 ((μ.1 3 0 4) - (1 : Int32))) else he_Past_remember_32 d j1 μ) := by exact (hs_ev_go hp_Past_remember [32] 40 0 _ [] μ).trans rfl
set_option maxRecDepth 100000 in
theorem hq_Past_remember_32 (d : Nat) (j1 : Nat) (μ : hs_M)  : he_Past_remember_32 d j1 μ =
  hs_bI (hc_Math_floorMod d ((μ.1 3 0 3) + (μ.1 3 0 4)) (20 : Int32) μ) (fun r1 μ1 => (if hs_in r1 20 then hs_bV (hc_State_copy d (1 + r1.toNatClampNeg) j1 μ1) (fun μ2 => some (none, (hs_wI μ2 3 0 4 ((μ2.1 3 0 4) + (1 : Int32))))) else none)) := by exact (hs_ev_go hp_Past_remember [32] 40 32 _ [] μ).trans rfl
theorem hp_Past_stepBack : hs_prog 41 = (hs_k41, 2, 3) := rfl
set_option maxRecDepth 100000 in
theorem hq_Past_stepBack (d : Nat) (j1 : Nat) (μ : hs_M)  : hc_Past_stepBack (d + 1) j1 μ =
  (if (μ.1 3 0 4) < (1 : Int32) then hs_rz (0 : Int32) μ else hs_bI (hc_Math_floorMod d ((μ.1 3 0 3) + ((μ.1 3 0 4) - (1 : Int32))) (20 : Int32) (hs_wI μ 3 0 4 ((μ.1 3 0 4) - (1 : Int32)))) (fun r1 μ1 => (if hs_in r1 20 then hs_bV (hc_State_copy d j1 (1 + r1.toNatClampNeg) μ1) (fun μ2 => hs_rz (1 : Int32) μ2) else none))) := by exact (hs_ev_go hp_Past_stepBack [] 29 0 _ [] μ).trans rfl
theorem hp_Past_forgetSteps : hs_prog 42 = (hs_k42, 1, 0) := rfl
set_option maxRecDepth 100000 in
theorem hq_Past_forgetSteps (d : Nat)  (μ : hs_M)  : hc_Past_forgetSteps (d + 1)  μ =
  some (none, (hs_wI μ 3 0 4 (0 : Int32))) := by exact (hs_ev_go hp_Past_forgetSteps [] 7 0 _ [] μ).trans rfl
noncomputable def he_Past_keepAside_9 (d : Nat)  (μ : hs_M) : Option (Option hs_V × hs_M) := hs_ev d 43 9 [none, none, none, none] [] μ
theorem hp_Past_keepAside : hs_prog 43 = (hs_k43, 4, 3) := rfl
set_option maxRecDepth 100000 in
theorem hq_Past_keepAside (d : Nat) (x1 : Int32) (j2 : Nat) (x3 : Int32) (μ : hs_M)  : hc_Past_keepAside (d + 1) x1 j2 x3 μ =
  (if x1 < 0 then he_Past_keepAside_9 d μ else (if x1 < (3 : Int32) then (if hs_in x1 3 then hs_bV (hc_State_copy d (21 + x1.toNatClampNeg) j2 μ) (fun μ1 => (if hs_in x1 3 then hs_rz (1 : Int32) (hs_wI μ1 32 0 (x1.toNatClampNeg) x3) else none)) else none) else he_Past_keepAside_9 d μ)) := by exact (hs_ev_go hp_Past_keepAside [9] 23 0 _ [] μ).trans rfl
set_option maxRecDepth 100000 in
theorem hq_Past_keepAside_9 (d : Nat)  (μ : hs_M)  : he_Past_keepAside_9 d  μ =
  hs_rz (0 : Int32) μ := by exact (hs_ev_go hp_Past_keepAside [9] 23 9 _ [] μ).trans rfl
noncomputable def he_Past_takeAgain_19 (d : Nat)  (μ : hs_M) : Option (Option hs_V × hs_M) := hs_ev d 44 19 [none, none, none, none] [] μ
theorem hp_Past_takeAgain : hs_prog 44 = (hs_k44, 4, 3) := rfl
set_option maxRecDepth 100000 in
theorem hq_Past_takeAgain (d : Nat) (x1 : Int32) (j2 : Nat) (x3 : Int32) (μ : hs_M)  : hc_Past_takeAgain (d + 1) x1 j2 x3 μ =
  (if x1 < 0 then he_Past_takeAgain_19 d μ else (if x1 < (3 : Int32) then (if hs_in x1 3 then (if (μ.1 32 0 (x1.toNatClampNeg)) = x3 then (if hs_in x1 3 then hs_bV (hc_State_copy d j2 (21 + x1.toNatClampNeg) μ) (fun μ1 => hs_bV (hc_Past_forgetSteps d μ1) (fun μ2 => hs_rz (1 : Int32) μ2)) else none) else he_Past_takeAgain_19 d μ) else none) else he_Past_takeAgain_19 d μ)) := by exact (hs_ev_go hp_Past_takeAgain [19] 26 0 _ [] μ).trans rfl
set_option maxRecDepth 100000 in
theorem hq_Past_takeAgain_19 (d : Nat)  (μ : hs_M)  : he_Past_takeAgain_19 d  μ =
  hs_rz (0 : Int32) μ := by exact (hs_ev_go hp_Past_takeAgain [19] 26 19 _ [] μ).trans rfl
theorem hp_Row_begin : hs_prog 45 = (hs_k45, 3, 0) := rfl
set_option maxRecDepth 100000 in
theorem hq_Row_begin (d : Nat) (x1 : Int64) (μ : hs_M)  : hc_Row_begin (d + 1) x1 μ =
  hs_bV (hc_Row_add d x1 (hs_wI μ 4 0 1 (0 : Int32))) (fun μ1 => some (none, μ1)) := by exact (hs_ev_go hp_Row_begin [] 10 0 _ [] μ).trans rfl
noncomputable def he_Row_add_36 (d : Nat)  (μ : hs_M) : Option (Option hs_V × hs_M) := hs_ev d 46 36 [none, none, none] [] μ
theorem hp_Row_add : hs_prog 46 = (hs_k46, 3, 0) := rfl
set_option maxRecDepth 100000 in
theorem hq_Row_add (d : Nat) (x1 : Int64) (μ : hs_M)  : hc_Row_add (d + 1) x1 μ =
  (if (μ.1 4 0 1) < 0 then he_Row_add_36 d μ else (if (μ.1 4 0 1) < (16 : Int32) then (if hs_in (μ.1 4 0 1) 16 then he_Row_add_36 d (hs_wI (hs_wL μ 14 0 ((μ.1 4 0 1).toNatClampNeg) x1) 4 0 1 ((μ.1 4 0 1) + (1 : Int32))) else none) else he_Row_add_36 d μ)) := by exact (hs_ev_go hp_Row_add [36] 23 0 _ [] μ).trans rfl
set_option maxRecDepth 100000 in
theorem hq_Row_add_36 (d : Nat)  (μ : hs_M)  : he_Row_add_36 d  μ =
  some (none, μ) := by exact (hs_ev_go hp_Row_add [36] 23 36 _ [] μ).trans rfl
noncomputable def he_Row_range_21 (d : Nat)  (μ : hs_M) : Option (Option hs_V × hs_M) := hs_ev d 47 21 [none, none, none, none] [] μ
theorem hp_Row_range : hs_prog 47 = (hs_k47, 4, 0) := rfl
set_option maxRecDepth 100000 in
theorem hq_Row_range (d : Nat) (x1 : Int32) (x2 : Int32) (x3 : Int32) (μ : hs_M)  : hc_Row_range (d + 1) x1 x2 x3 μ =
  (if 0 < x1 then hs_bV (hc_Row_add d (x2.toInt64) (hs_wI μ 4 0 1 (0 : Int32))) (fun μ1 => hs_bV (hc_Row_add d (x3.toInt64) μ1) (fun μ2 => he_Row_range_21 d μ2)) else he_Row_range_21 d (hs_wI μ 4 0 1 (0 : Int32))) := by exact (hs_ev_go hp_Row_range [21] 17 0 _ [] μ).trans rfl
set_option maxRecDepth 100000 in
theorem hq_Row_range_21 (d : Nat)  (μ : hs_M)  : he_Row_range_21 d  μ =
  some (none, μ) := by exact (hs_ev_go hp_Row_range [21] 17 21 _ [] μ).trans rfl
noncomputable def he_Row_fraction_30 (d : Nat)  (μ : hs_M) : Option (Option hs_V × hs_M) := hs_ev d 48 30 [none, none, none, none, none, none, none] [] μ
theorem hp_Row_fraction : hs_prog 48 = (hs_k48, 7, 0) := rfl
set_option maxRecDepth 100000 in
theorem hq_Row_fraction (d : Nat) (x1 : Int64) (x3 : Int64) (μ : hs_M)  : hc_Row_fraction (d + 1) x1 x3 μ =
  hs_bL (hc_Row_commonDivisor d x1 x3 μ) (fun r1 μ1 => (if 0 < (lg_cmp r1 (0 : Int64)) then (if r1 = 0 then none else hs_bV (hc_Row_begin d (x1 / r1) μ1) (fun μ2 => (if r1 = 0 then none else hs_bV (hc_Row_add d (x3 / r1) μ2) (fun μ3 => he_Row_fraction_30 d μ3)))) else he_Row_fraction_30 d μ1)) := by exact (hs_ev_go hp_Row_fraction [30] 22 0 _ [] μ).trans rfl
set_option maxRecDepth 100000 in
theorem hq_Row_fraction_30 (d : Nat)  (μ : hs_M)  : he_Row_fraction_30 d  μ =
  some (none, μ) := by exact (hs_ev_go hp_Row_fraction [30] 22 30 _ [] μ).trans rfl
noncomputable def he_Row_commonDivisor_3 (d : Nat) (x0 : Int64) (x2 : Int64) (x4 : Int32) (μ : hs_M) : Option (Option hs_V × hs_M) := hs_ev d 49 3 [some (vL x0), none, some (vL x2), none, some (vI x4), none, none] [] μ
noncomputable def he_Row_commonDivisor_33 (d : Nat) (x0 : Int64) (μ : hs_M) : Option (Option hs_V × hs_M) := hs_ev d 49 33 [some (vL x0), none, none, none, none, none, none] [] μ
theorem hp_Row_commonDivisor : hs_prog 49 = (hs_k49, 7, 2) := rfl
set_option maxRecDepth 100000 in
theorem hq_Row_commonDivisor (d : Nat) (x0 : Int64) (x2 : Int64) (μ : hs_M)  : hc_Row_commonDivisor (d + 1) x0 x2 μ =
  he_Row_commonDivisor_3 d x0 x2 (0 : Int32) μ := by exact (hs_ev_go hp_Row_commonDivisor [3, 33] 24 0 _ [] μ).trans rfl
set_option maxRecDepth 100000 in
theorem hq_Row_commonDivisor_3 (d : Nat) (x0 : Int64) (x2 : Int64) (x4 : Int32) (μ : hs_M)  : he_Row_commonDivisor_3 d x0 x2 x4 μ =
  (if x4 < (200 : Int32) then (if (lg_cmp x2 (0 : Int64)) = 0 then he_Row_commonDivisor_33 d x0 μ else (if x2 = 0 then none else he_Row_commonDivisor_3 d x2 (x0 - x0 / x2 * x2) (x4 + (1 : Int32)) μ)) else he_Row_commonDivisor_33 d x0 μ) := by exact (hs_ev_go hp_Row_commonDivisor [3, 33] 24 3 _ [] μ).trans rfl
set_option maxRecDepth 100000 in
theorem hq_Row_commonDivisor_33 (d : Nat) (x0 : Int64) (μ : hs_M)  : he_Row_commonDivisor_33 d x0 μ =
  some (some (vL x0), μ) := by exact (hs_ev_go hp_Row_commonDivisor [3, 33] 24 33 _ [] μ).trans rfl
theorem hp_Scale_shows : hs_prog 50 = (hs_k50, 3, 1) := rfl
set_option maxRecDepth 100000 in
theorem hq_Scale_shows (d : Nat) (x1 : Int32) (μ : hs_M)  : hc_Scale_shows (d + 1) x1 μ =
  (if (x1 + (μ.1 5 0 1)) < 0 then some (some (vI (0 : Int32)), μ) else (if (μ.1 5 0 0) < (1 : Int32) then some (some (vI (x1 + (μ.1 5 0 1))), μ) else (if (μ.1 5 0 0) = 0 then none else some (some (vI ((x1 + (μ.1 5 0 1)) - ((x1 + (μ.1 5 0 1)) - (x1 + (μ.1 5 0 1)) / (μ.1 5 0 0) * (μ.1 5 0 0)))), μ)))) := by exact (hs_ev_go hp_Scale_shows [] 25 0 _ [] μ).trans rfl
noncomputable def he_Scale_misfits_6 (d : Nat) (j1 : Nat) (x3 : Int32) (x4 : Int32) (x5 : Int32) (μ : hs_M) : Option (Option hs_V × hs_M) := hs_ev d 51 6 [some (vR 5 0), some (vR 2 j1), some (vR 24 0), some (vI x3), some (vI x4), some (vI x5), none] [] μ
noncomputable def he_Scale_misfits_71 (d : Nat) (j1 : Nat) (x3 : Int32) (x4 : Int32) (x5 : Int32) (μ : hs_M) : Option (Option hs_V × hs_M) := hs_ev d 51 71 [some (vR 5 0), some (vR 2 j1), some (vR 24 0), some (vI x3), some (vI x4), some (vI x5), none] [] μ
theorem hp_Scale_misfits : hs_prog 51 = (hs_k51, 7, 1) := rfl
set_option maxRecDepth 100000 in
theorem hq_Scale_misfits (d : Nat) (j1 : Nat) (x3 : Int32) (μ : hs_M)  : hc_Scale_misfits (d + 1) j1 x3 μ =
  he_Scale_misfits_6 d j1 x3 (0 : Int32) (0 : Int32) μ := by exact (hs_ev_go hp_Scale_misfits [6, 71] 46 0 _ [] μ).trans rfl
set_option maxRecDepth 100000 in
theorem hq_Scale_misfits_6 (d : Nat) (j1 : Nat) (x3 : Int32) (x4 : Int32) (x5 : Int32) (μ : hs_M)  : he_Scale_misfits_6 d j1 x3 x4 x5 μ =
  (if x5 < (μ.1 2 j1 2) then hs_bI (hc_Pairs_person d j1 x5 μ) (fun r1 μ1 => (if r1 < 0 then he_Scale_misfits_71 d j1 x3 x4 x5 μ1 else (if r1 < (8 : Int32) then (if hs_in r1 8 then hs_bI (hc_Scale_shows d (((μ1.1 24 0 (r1.toNatClampNeg)) + x3) - (μ1.1 5 0 1)) μ1) (fun r2 μ2 => hs_bI (hc_Pairs_value d j1 x5 μ2) (fun r3 μ3 => (if r2 = r3 then he_Scale_misfits_71 d j1 x3 x4 x5 μ3 else he_Scale_misfits_71 d j1 x3 (x4 ||| ((1 : Int32) <<< (r1 &&& 31))) x5 μ3))) else none) else he_Scale_misfits_71 d j1 x3 x4 x5 μ1))) else some (some (vI x4), μ)) := by exact (hs_ev_go hp_Scale_misfits [6, 71] 46 6 _ [] μ).trans rfl
set_option maxRecDepth 100000 in
theorem hq_Scale_misfits_71 (d : Nat) (j1 : Nat) (x3 : Int32) (x4 : Int32) (x5 : Int32) (μ : hs_M)  : he_Scale_misfits_71 d j1 x3 x4 x5 μ =
  he_Scale_misfits_6 d j1 x3 x4 (x5 + (1 : Int32)) μ := by exact (hs_ev_go hp_Scale_misfits [6, 71] 46 71 _ [] μ).trans rfl
noncomputable def he_Scale_possibleGrains_5 (d : Nat) (j1 : Nat) (x2 : Int32) (x3 : Int32) (x4 : Int32) (μ : hs_M) : Option (Option hs_V × hs_M) := hs_ev d 52 5 [some (vR 5 0), some (vR 2 j1), some (vI x2), some (vI x3), some (vI x4), none, none] [] μ
noncomputable def he_Scale_possibleGrains_18 (d : Nat) (j1 : Nat) (x2 : Int32) (x3 : Int32) (x4 : Int32) (x5 : Int32) (x6 : Int32) (μ : hs_M) : Option (Option hs_V × hs_M) := hs_ev d 52 18 [some (vR 5 0), some (vR 2 j1), some (vI x2), some (vI x3), some (vI x4), some (vI x5), some (vI x6)] [] μ
noncomputable def he_Scale_possibleGrains_54 (d : Nat) (j1 : Nat) (x2 : Int32) (x3 : Int32) (x4 : Int32) (x5 : Int32) (μ : hs_M) : Option (Option hs_V × hs_M) := hs_ev d 52 54 [some (vR 5 0), some (vR 2 j1), some (vI x2), some (vI x3), some (vI x4), some (vI x5), none] [] μ
noncomputable def he_Scale_possibleGrains_66 (d : Nat) (j1 : Nat) (x2 : Int32) (x3 : Int32) (x4 : Int32) (μ : hs_M) : Option (Option hs_V × hs_M) := hs_ev d 52 66 [some (vR 5 0), some (vR 2 j1), some (vI x2), some (vI x3), some (vI x4), none, none] [] μ
theorem hp_Scale_possibleGrains : hs_prog 52 = (hs_k52, 7, 1) := rfl
set_option maxRecDepth 100000 in
theorem hq_Scale_possibleGrains (d : Nat) (j1 : Nat) (x2 : Int32) (μ : hs_M)  : hc_Scale_possibleGrains (d + 1) j1 x2 μ =
  he_Scale_possibleGrains_5 d j1 x2 (0 : Int32) (1 : Int32) μ := by exact (hs_ev_go hp_Scale_possibleGrains [5, 18, 54, 66] 43 0 _ [] μ).trans rfl
set_option maxRecDepth 100000 in
theorem hq_Scale_possibleGrains_5 (d : Nat) (j1 : Nat) (x2 : Int32) (x3 : Int32) (x4 : Int32) (μ : hs_M)  : he_Scale_possibleGrains_5 d j1 x2 x3 x4 μ =
  (if (9 : Int32) < x4 then some (some (vI x3), μ) else he_Scale_possibleGrains_18 d j1 x2 x3 x4 (1 : Int32) (0 : Int32) μ) := by exact (hs_ev_go hp_Scale_possibleGrains [5, 18, 54, 66] 43 5 _ [] μ).trans rfl
set_option maxRecDepth 100000 in
theorem hq_Scale_possibleGrains_18 (d : Nat) (j1 : Nat) (x2 : Int32) (x3 : Int32) (x4 : Int32) (x5 : Int32) (x6 : Int32) (μ : hs_M)  : he_Scale_possibleGrains_18 d j1 x2 x3 x4 x5 x6 μ =
  (if x6 < x2 then (if x5 = 0 then he_Scale_possibleGrains_54 d j1 x2 x3 x4 x5 μ else hs_bI (hc_Scale_narrow d j1 x6 x4 μ) (fun r1 μ1 => (if 0 < r1 then he_Scale_possibleGrains_18 d j1 x2 x3 x4 (1 : Int32) (x6 + (1 : Int32)) μ1 else he_Scale_possibleGrains_18 d j1 x2 x3 x4 (0 : Int32) (x6 + (1 : Int32)) μ1))) else he_Scale_possibleGrains_54 d j1 x2 x3 x4 x5 μ) := by exact (hs_ev_go hp_Scale_possibleGrains [5, 18, 54, 66] 43 18 _ [] μ).trans rfl
set_option maxRecDepth 100000 in
theorem hq_Scale_possibleGrains_54 (d : Nat) (j1 : Nat) (x2 : Int32) (x3 : Int32) (x4 : Int32) (x5 : Int32) (μ : hs_M)  : he_Scale_possibleGrains_54 d j1 x2 x3 x4 x5 μ =
  (if x5 = 0 then he_Scale_possibleGrains_66 d j1 x2 x3 x4 μ else he_Scale_possibleGrains_66 d j1 x2 (x3 ||| ((1 : Int32) <<< (x4 &&& 31))) x4 μ) := by exact (hs_ev_go hp_Scale_possibleGrains [5, 18, 54, 66] 43 54 _ [] μ).trans rfl
set_option maxRecDepth 100000 in
theorem hq_Scale_possibleGrains_66 (d : Nat) (j1 : Nat) (x2 : Int32) (x3 : Int32) (x4 : Int32) (μ : hs_M)  : he_Scale_possibleGrains_66 d j1 x2 x3 x4 μ =
  he_Scale_possibleGrains_5 d j1 x2 x3 (x4 + (1 : Int32)) μ := by exact (hs_ev_go hp_Scale_possibleGrains [5, 18, 54, 66] 43 66 _ [] μ).trans rfl
noncomputable def he_Scale_narrow_15 (d : Nat) (j1 : Nat) (x2 : Int32) (x3 : Int32) (x4 : Int32) (μ : hs_M) : Option (Option hs_V × hs_M) := hs_ev d 53 15 [some (vR 5 0), some (vR 2 j1), some (vI x2), some (vI x3), some (vI x4)] [] μ
noncomputable def he_Scale_narrow_45 (d : Nat) (j1 : Nat) (x2 : Int32) (x3 : Int32) (x4 : Int32) (μ : hs_M) : Option (Option hs_V × hs_M) := hs_ev d 53 45 [some (vR 5 0), some (vR 2 j1), some (vI x2), some (vI x3), some (vI x4)] [] μ
theorem hp_Scale_narrow : hs_prog 53 = (hs_k53, 5, 1) := rfl
set_option maxRecDepth 100000 in
theorem hq_Scale_narrow (d : Nat) (j1 : Nat) (x2 : Int32) (x3 : Int32) (μ : hs_M)  : hc_Scale_narrow (d + 1) j1 x2 x3 μ =
  he_Scale_narrow_15 d j1 x2 x3 (0 : Int32) (hs_wI (hs_wI μ 5 0 2 (1 : Int32)) 5 0 3 (999 : Int32)) := by exact (hs_ev_go hp_Scale_narrow [15, 45] 38 0 _ [] μ).trans rfl
set_option maxRecDepth 100000 in
theorem hq_Scale_narrow_15 (d : Nat) (j1 : Nat) (x2 : Int32) (x3 : Int32) (x4 : Int32) (μ : hs_M)  : he_Scale_narrow_15 d j1 x2 x3 x4 μ =
  (if x4 < (μ.1 2 j1 2) then hs_bI (hc_Pairs_person d j1 x4 μ) (fun r1 μ1 => (if r1 = x2 then hs_bI (hc_Pairs_value d j1 x4 μ1) (fun r2 μ2 => hs_bV (hc_Scale_narrowBy d r2 x3 μ2) (fun μ3 => he_Scale_narrow_45 d j1 x2 x3 x4 μ3)) else he_Scale_narrow_45 d j1 x2 x3 x4 μ1)) else hs_bI (hc_Math_max d (0 : Int32) (((μ.1 5 0 3) - (μ.1 5 0 2)) + (1 : Int32)) μ) (fun r4 μ4 => some (some (vI r4), μ4))) := by exact (hs_ev_go hp_Scale_narrow [15, 45] 38 15 _ [] μ).trans rfl
set_option maxRecDepth 100000 in
theorem hq_Scale_narrow_45 (d : Nat) (j1 : Nat) (x2 : Int32) (x3 : Int32) (x4 : Int32) (μ : hs_M)  : he_Scale_narrow_45 d j1 x2 x3 x4 μ =
  he_Scale_narrow_15 d j1 x2 x3 (x4 + (1 : Int32)) μ := by exact (hs_ev_go hp_Scale_narrow [15, 45] 38 45 _ [] μ).trans rfl
noncomputable def he_Scale_narrowBy_11 (d : Nat)  (μ : hs_M) : Option (Option hs_V × hs_M) := hs_ev d 54 11 [some (vR 5 0), none, none] [] μ
noncomputable def he_Scale_narrowBy_38 (d : Nat) (x1 : Int32) (x2 : Int32) (μ : hs_M) : Option (Option hs_V × hs_M) := hs_ev d 54 38 [some (vR 5 0), some (vI x1), some (vI x2)] [] μ
theorem hp_Scale_narrowBy : hs_prog 54 = (hs_k54, 3, 0) := rfl
set_option maxRecDepth 100000 in
theorem hq_Scale_narrowBy (d : Nat) (x1 : Int32) (x2 : Int32) (μ : hs_M)  : hc_Scale_narrowBy (d + 1) x1 x2 μ =
  (if x2 < (1 : Int32) then he_Scale_narrowBy_11 d μ else (if x2 = 0 then none else (if (x1 - x1 / x2 * x2) = 0 then (if 0 < x1 then hs_bI (hc_Math_max d (μ.1 5 0 2) (x1 - (μ.1 5 0 1)) μ) (fun r1 μ1 => he_Scale_narrowBy_38 d x1 x2 (hs_wI μ1 5 0 2 r1)) else he_Scale_narrowBy_38 d x1 x2 μ) else he_Scale_narrowBy_11 d μ))) := by exact (hs_ev_go hp_Scale_narrowBy [11, 38] 39 0 _ [] μ).trans rfl
set_option maxRecDepth 100000 in
theorem hq_Scale_narrowBy_11 (d : Nat)  (μ : hs_M)  : he_Scale_narrowBy_11 d  μ =
  some (none, (hs_wI μ 5 0 3 (0 : Int32))) := by exact (hs_ev_go hp_Scale_narrowBy [11, 38] 39 11 _ [] μ).trans rfl
set_option maxRecDepth 100000 in
theorem hq_Scale_narrowBy_38 (d : Nat) (x1 : Int32) (x2 : Int32) (μ : hs_M)  : he_Scale_narrowBy_38 d x1 x2 μ =
  hs_bI (hc_Math_min d (μ.1 5 0 3) (((x1 + x2) - (1 : Int32)) - (μ.1 5 0 1)) μ) (fun r1 μ1 => some (none, (hs_wI μ1 5 0 3 r1))) := by exact (hs_ev_go hp_Scale_narrowBy [11, 38] 39 38 _ [] μ).trans rfl
theorem hp_State_follow : hs_prog 55 = (hs_k55, 2, 0) := rfl
set_option maxRecDepth 100000 in
theorem hq_State_follow (d : Nat) (j0 : Nat) (j1 : Nat) (μ : hs_M)  : hc_State_follow (d + 1) j0 j1 μ =
  some (none, (hs_cp (hs_cp (hs_wI (hs_wI (hs_wI (hs_wI (hs_wI (hs_wI μ 6 j0 0 (μ.1 6 j1 0)) 6 j0 1 (μ.1 6 j1 1)) 6 j0 2 (μ.1 6 j1 2)) 6 j0 3 (μ.1 6 j1 3)) 6 j0 4 (μ.1 6 j1 4)) 6 j0 5 (μ.1 6 j1 5)) 24 j1 0 24 j0 0 8) 25 j1 0 25 j0 0 8)) := by exact (hs_ev_go hp_State_follow [] 44 0 _ [] μ).trans rfl
theorem hp_State_copy : hs_prog 56 = (hs_k56, 2, 0) := rfl
set_option maxRecDepth 100000 in
theorem hq_State_copy (d : Nat) (j0 : Nat) (j1 : Nat) (μ : hs_M)  : hc_State_copy (d + 1) j0 j1 μ =
  hs_bV (hc_State_follow d j0 j1 μ) (fun μ1 => some (none, (hs_cp (hs_cp (hs_cp (hs_cp (hs_wI μ1 6 j0 6 (μ1.1 6 j1 6)) 26 j1 0 26 j0 0 12) 27 j1 0 27 j0 0 12) 28 j1 0 28 j0 0 12) 29 j1 0 29 j0 0 60))) := by exact (hs_ev_go hp_State_copy [] 43 0 _ [] μ).trans rfl
noncomputable def he_State_welcome_36 (d : Nat)  (μ : hs_M) : Option (Option hs_V × hs_M) := hs_ev d 57 36 [none, none, none] [] μ
theorem hp_State_welcome : hs_prog 57 = (hs_k57, 3, 0) := rfl
set_option maxRecDepth 100000 in
theorem hq_State_welcome (d : Nat) (j0 : Nat) (x1 : Int32) (x2 : Int32) (μ : hs_M)  : hc_State_welcome (d + 1) j0 x1 x2 μ =
  (if x1 < 0 then he_State_welcome_36 d μ else (if x1 < (8 : Int32) then (if hs_in x1 8 then (if hs_in x1 8 then he_State_welcome_36 d (hs_wI (hs_wI (hs_wI μ 24 j0 (x1.toNatClampNeg) x2) 25 j0 (x1.toNatClampNeg) (0 : Int32)) 6 j0 3 ((μ.1 6 j0 3) ||| ((1 : Int32) <<< (x1 &&& 31)))) else none) else none) else he_State_welcome_36 d μ)) := by exact (hs_ev_go hp_State_welcome [36] 27 0 _ [] μ).trans rfl
set_option maxRecDepth 100000 in
theorem hq_State_welcome_36 (d : Nat)  (μ : hs_M)  : he_State_welcome_36 d  μ =
  some (none, μ) := by exact (hs_ev_go hp_State_welcome [36] 27 36 _ [] μ).trans rfl
theorem hp_State_lives : hs_prog 58 = (hs_k58, 2, 3) := rfl
set_option maxRecDepth 100000 in
theorem hq_State_lives (d : Nat) (j0 : Nat) (x1 : Int32) (μ : hs_M)  : hc_State_lives (d + 1) j0 x1 μ =
  (if (((μ.1 6 j0 3) >>> (x1 &&& 31)) &&& (1 : Int32)) = 0 then hs_rz (0 : Int32) μ else hs_rz (1 : Int32) μ) := by exact (hs_ev_go hp_State_lives [] 14 0 _ [] μ).trans rfl
noncomputable def he_State_putWeight_20 (d : Nat)  (μ : hs_M) : Option (Option hs_V × hs_M) := hs_ev d 59 20 [none, none, none] [] μ
theorem hp_State_putWeight : hs_prog 59 = (hs_k59, 3, 0) := rfl
set_option maxRecDepth 100000 in
theorem hq_State_putWeight (d : Nat) (j0 : Nat) (x1 : Int32) (x2 : Int32) (μ : hs_M)  : hc_State_putWeight (d + 1) j0 x1 x2 μ =
  (if x1 < 0 then he_State_putWeight_20 d μ else (if x1 < (8 : Int32) then hs_bI (hc_H_inBounds d x2 μ) (fun r1 μ1 => (if hs_in x1 8 then he_State_putWeight_20 d (hs_wI μ1 24 j0 (x1.toNatClampNeg) r1) else none)) else he_State_putWeight_20 d μ)) := by exact (hs_ev_go hp_State_putWeight [20] 15 0 _ [] μ).trans rfl
set_option maxRecDepth 100000 in
theorem hq_State_putWeight_20 (d : Nat)  (μ : hs_M)  : he_State_putWeight_20 d  μ =
  some (none, μ) := by exact (hs_ev_go hp_State_putWeight [20] 15 20 _ [] μ).trans rfl
noncomputable def he_State_makeLaw_15 (d : Nat)  (μ : hs_M) : Option (Option hs_V × hs_M) := hs_ev d 60 15 [none, none] [] μ
theorem hp_State_makeLaw : hs_prog 60 = (hs_k60, 2, 1) := rfl
set_option maxRecDepth 100000 in
theorem hq_State_makeLaw (d : Nat) (j0 : Nat) (μ : hs_M)  : hc_State_makeLaw (d + 1) j0 μ =
  (if (μ.1 6 j0 6) < 0 then he_State_makeLaw_15 d μ else (if (μ.1 6 j0 6) < (12 : Int32) then (if hs_in (μ.1 6 j0 6) 12 then (if hs_in (μ.1 6 j0 6) 12 then (if hs_in (μ.1 6 j0 6) 12 then some (some (vI (μ.1 6 j0 6)), (hs_wI (hs_wI (hs_wI (hs_wI (hs_wI (hs_wI μ 26 j0 ((μ.1 6 j0 6).toNatClampNeg) (μ.1 6 j0 1)) 27 j0 ((μ.1 6 j0 6).toNatClampNeg) (μ.1 6 j0 0)) 28 j0 ((μ.1 6 j0 6).toNatClampNeg) (-1 : Int32)) 6 j0 4 ((μ.1 6 j0 4) ||| ((1 : Int32) <<< ((μ.1 6 j0 6) &&& 31)))) 6 j0 5 ((μ.1 6 j0 5) + (1 : Int32))) 6 j0 6 ((μ.1 6 j0 6) + (1 : Int32)))) else none) else none) else none) else he_State_makeLaw_15 d μ)) := by exact (hs_ev_go hp_State_makeLaw [15] 52 0 _ [] μ).trans rfl
set_option maxRecDepth 100000 in
theorem hq_State_makeLaw_15 (d : Nat)  (μ : hs_M)  : he_State_makeLaw_15 d  μ =
  some (some (vI (-1 : Int32)), μ) := by exact (hs_ev_go hp_State_makeLaw [15] 52 15 _ [] μ).trans rfl
noncomputable def he_State_dropLaws_7 (d : Nat) (j0 : Nat) (x1 : Int32) (x2 : Int32) (μ : hs_M) : Option (Option hs_V × hs_M) := hs_ev d 61 7 [some (vR 6 j0), some (vI x1), some (vI x2)] [] μ
noncomputable def he_State_dropLaws_38 (d : Nat) (j0 : Nat) (x1 : Int32) (x2 : Int32) (μ : hs_M) : Option (Option hs_V × hs_M) := hs_ev d 61 38 [some (vR 6 j0), some (vI x1), some (vI x2)] [] μ
noncomputable def he_State_dropLaws_44 (d : Nat) (j0 : Nat) (x1 : Int32) (μ : hs_M) : Option (Option hs_V × hs_M) := hs_ev d 61 44 [some (vR 6 j0), some (vI x1), none] [] μ
theorem hp_State_dropLaws : hs_prog 61 = (hs_k61, 3, 1) := rfl
set_option maxRecDepth 100000 in
theorem hq_State_dropLaws (d : Nat) (j0 : Nat) (μ : hs_M)  : hc_State_dropLaws (d + 1) j0 μ =
  he_State_dropLaws_7 d j0 (μ.1 6 j0 5) (0 : Int32) μ := by exact (hs_ev_go hp_State_dropLaws [7, 38, 44] 36 0 _ [] μ).trans rfl
set_option maxRecDepth 100000 in
theorem hq_State_dropLaws_7 (d : Nat) (j0 : Nat) (x1 : Int32) (x2 : Int32) (μ : hs_M)  : he_State_dropLaws_7 d j0 x1 x2 μ =
  (if x2 < (12 : Int32) then (if 0 < x1 then (if (((μ.1 6 j0 4) >>> (x2 &&& 31)) &&& (1 : Int32)) = 0 then he_State_dropLaws_38 d j0 x1 x2 μ else (if hs_in x2 12 then he_State_dropLaws_38 d j0 x1 x2 (hs_wI μ 28 j0 (x2.toNatClampNeg) (μ.1 6 j0 0)) else none)) else he_State_dropLaws_44 d j0 x1 μ) else he_State_dropLaws_44 d j0 x1 μ) := by exact (hs_ev_go hp_State_dropLaws [7, 38, 44] 36 7 _ [] μ).trans rfl
set_option maxRecDepth 100000 in
theorem hq_State_dropLaws_38 (d : Nat) (j0 : Nat) (x1 : Int32) (x2 : Int32) (μ : hs_M)  : he_State_dropLaws_38 d j0 x1 x2 μ =
  he_State_dropLaws_7 d j0 x1 (x2 + (1 : Int32)) μ := by exact (hs_ev_go hp_State_dropLaws [7, 38, 44] 36 38 _ [] μ).trans rfl
set_option maxRecDepth 100000 in
theorem hq_State_dropLaws_44 (d : Nat) (j0 : Nat) (x1 : Int32) (μ : hs_M)  : he_State_dropLaws_44 d j0 x1 μ =
  some (some (vI x1), (hs_wI (hs_wI μ 6 j0 4 (0 : Int32)) 6 j0 5 (0 : Int32))) := by exact (hs_ev_go hp_State_dropLaws [7, 38, 44] 36 44 _ [] μ).trans rfl
theorem hp_State_bury : hs_prog 62 = (hs_k62, 2, 1) := rfl
set_option maxRecDepth 100000 in
theorem hq_State_bury (d : Nat) (j0 : Nat) (x1 : Int32) (μ : hs_M)  : hc_State_bury (d + 1) j0 x1 μ =
  (if (μ.1 6 j0 1) = x1 then hs_bI (hc_State_dropLaws d j0 (hs_wI (hs_wI (hs_wI μ 6 j0 3 ((μ.1 6 j0 3) &&& (((1 : Int32) <<< (x1 &&& 31)) ^^^ (-1 : Int32)))) 6 j0 1 (-1 : Int32)) 6 j0 2 (0 : Int32))) (fun r1 μ1 => some (some (vI r1), μ1)) else some (some (vI (0 : Int32)), (hs_wI μ 6 j0 3 ((μ.1 6 j0 3) &&& (((1 : Int32) <<< (x1 &&& 31)) ^^^ (-1 : Int32)))))) := by exact (hs_ev_go hp_State_bury [] 28 0 _ [] μ).trans rfl
noncomputable def he_State_serveWeek_20 (d : Nat) (j0 : Nat) (μ : hs_M) : Option (Option hs_V × hs_M) := hs_ev d 63 20 [some (vR 6 j0), none] [] μ
noncomputable def he_State_serveWeek_59 (d : Nat) (j0 : Nat) (μ : hs_M) : Option (Option hs_V × hs_M) := hs_ev d 63 59 [some (vR 6 j0), none] [] μ
theorem hp_State_serveWeek : hs_prog 63 = (hs_k63, 2, 0) := rfl
set_option maxRecDepth 100000 in
theorem hq_State_serveWeek (d : Nat) (j0 : Nat) (x1 : Int32) (μ : hs_M)  : hc_State_serveWeek (d + 1) j0 x1 μ =
  (if x1 = (-1 : Int32) then he_State_serveWeek_20 d j0 μ else hs_bI (hc_State_dropLaws d j0 μ) (fun r1 μ1 => he_State_serveWeek_20 d j0 (hs_wI (hs_wI μ1 6 j0 1 x1) 6 j0 2 (0 : Int32)))) := by exact (hs_ev_go hp_State_serveWeek [20, 59] 47 0 _ [] μ).trans rfl
set_option maxRecDepth 100000 in
theorem hq_State_serveWeek_20 (d : Nat) (j0 : Nat) (μ : hs_M)  : he_State_serveWeek_20 d j0 μ =
  (if (μ.1 6 j0 1) < 0 then he_State_serveWeek_59 d j0 μ else (if (μ.1 6 j0 1) < (8 : Int32) then (if hs_in (μ.1 6 j0 1) 8 then (if hs_in (μ.1 6 j0 1) 8 then he_State_serveWeek_59 d j0 (hs_wI (hs_wI μ 6 j0 2 ((μ.1 6 j0 2) + (1 : Int32))) 25 j0 ((μ.1 6 j0 1).toNatClampNeg) ((μ.1 25 j0 ((μ.1 6 j0 1).toNatClampNeg)) + (1 : Int32))) else none) else none) else he_State_serveWeek_59 d j0 μ)) := by exact (hs_ev_go hp_State_serveWeek [20, 59] 47 20 _ [] μ).trans rfl
set_option maxRecDepth 100000 in
theorem hq_State_serveWeek_59 (d : Nat) (j0 : Nat) (μ : hs_M)  : he_State_serveWeek_59 d j0 μ =
  hs_bI (hc_Math_floorMod d (μ.1 6 j0 0) (60 : Int32) μ) (fun r1 μ1 => (if hs_in r1 60 then some (none, (hs_wI μ1 29 j0 (r1.toNatClampNeg) (μ1.1 6 j0 1))) else none)) := by exact (hs_ev_go hp_State_serveWeek [20, 59] 47 59 _ [] μ).trans rfl
noncomputable def he_Text_append_16 (d : Nat)  (μ : hs_M) : Option (Option hs_V × hs_M) := hs_ev d 64 16 [none, none, none] [] μ
noncomputable def he_Text_append_20 (d : Nat) (x1 : Int32) (x2 : Int32) (μ : hs_M) : Option (Option hs_V × hs_M) := hs_ev d 64 20 [some (vR 7 0), some (vI x1), some (vI x2)] [] μ
theorem hp_Text_append : hs_prog 64 = (hs_k64, 3, 3) := rfl
set_option maxRecDepth 100000 in
theorem hq_Text_append (d : Nat) (x1 : Int32) (μ : hs_M)  : hc_Text_append (d + 1) x1 μ =
  (if (μ.1 7 0 1) < 0 then he_Text_append_16 d μ else (if (76 : Int32) < (μ.1 7 0 1) then he_Text_append_16 d μ else he_Text_append_20 d x1 (0 : Int32) μ)) := by exact (hs_ev_go hp_Text_append [16, 20] 43 0 _ [] μ).trans rfl
set_option maxRecDepth 100000 in
theorem hq_Text_append_16 (d : Nat)  (μ : hs_M)  : he_Text_append_16 d  μ =
  hs_rz (0 : Int32) μ := by exact (hs_ev_go hp_Text_append [16, 20] 43 16 _ [] μ).trans rfl
set_option maxRecDepth 100000 in
theorem hq_Text_append_20 (d : Nat) (x1 : Int32) (x2 : Int32) (μ : hs_M)  : he_Text_append_20 d x1 x2 μ =
  (if x2 < (4 : Int32) then (if hs_in ((μ.1 7 0 1) + x2) 80 then he_Text_append_20 d x1 (x2 + (1 : Int32)) (hs_wI μ 13 0 (((μ.1 7 0 1) + x2).toNatClampNeg) (((x1.toUInt32 >>> (((24 : Int32) - ((8 : Int32) * x2)).toUInt32 &&& Int32.toUInt32 31)).toInt32) &&& (255 : Int32))) else none) else hs_rz (1 : Int32) (hs_wI μ 7 0 1 ((μ.1 7 0 1) + (4 : Int32)))) := by exact (hs_ev_go hp_Text_append [16, 20] 43 20 _ [] μ).trans rfl
theorem hp_Text_open : hs_prog 65 = (hs_k65, 2, 0) := rfl
set_option maxRecDepth 100000 in
theorem hq_Text_open (d : Nat) (x1 : Int32) (μ : hs_M)  : hc_Text_open (d + 1) x1 μ =
  hs_bI (hc_Math_min d (μ.1 7 0 1) x1 μ) (fun r1 μ1 => some (none, (hs_wI μ1 7 0 2 r1))) := by exact (hs_ev_go hp_Text_open [] 10 0 _ [] μ).trans rfl
noncomputable def he_Text_signAt_18 (d : Nat)  (μ : hs_M) : Option (Option hs_V × hs_M) := hs_ev d 66 18 [none, none] [] μ
theorem hp_Text_signAt : hs_prog 66 = (hs_k66, 2, 1) := rfl
set_option maxRecDepth 100000 in
theorem hq_Text_signAt (d : Nat) (x1 : Int32) (μ : hs_M)  : hc_Text_signAt (d + 1) x1 μ =
  (if x1 < 0 then he_Text_signAt_18 d μ else (if x1 < (μ.1 7 0 2) then (if x1 < (80 : Int32) then (if hs_in x1 80 then some (some (vI (μ.1 13 0 (x1.toNatClampNeg))), μ) else none) else he_Text_signAt_18 d μ) else he_Text_signAt_18 d μ)) := by exact (hs_ev_go hp_Text_signAt [18] 19 0 _ [] μ).trans rfl
set_option maxRecDepth 100000 in
theorem hq_Text_signAt_18 (d : Nat)  (μ : hs_M)  : he_Text_signAt_18 d  μ =
  some (some (vI (-1 : Int32)), μ) := by exact (hs_ev_go hp_Text_signAt [18] 19 18 _ [] μ).trans rfl
noncomputable def he_Text_digitAt_25 (d : Nat)  (μ : hs_M) : Option (Option hs_V × hs_M) := hs_ev d 67 25 [none, none, none] [] μ
theorem hp_Text_digitAt : hs_prog 67 = (hs_k67, 3, 1) := rfl
set_option maxRecDepth 100000 in
theorem hq_Text_digitAt (d : Nat) (x1 : Int32) (μ : hs_M)  : hc_Text_digitAt (d + 1) x1 μ =
  hs_bI (hc_Text_signAt d x1 μ) (fun r1 μ1 => (if r1 < (48 : Int32) then he_Text_digitAt_25 d μ1 else (if (57 : Int32) < r1 then he_Text_digitAt_25 d μ1 else some (some (vI (r1 - (48 : Int32))), μ1)))) := by exact (hs_ev_go hp_Text_digitAt [25] 19 0 _ [] μ).trans rfl
set_option maxRecDepth 100000 in
theorem hq_Text_digitAt_25 (d : Nat)  (μ : hs_M)  : he_Text_digitAt_25 d  μ =
  some (some (vI (-1 : Int32)), μ) := by exact (hs_ev_go hp_Text_digitAt [25] 19 25 _ [] μ).trans rfl
noncomputable def he_Town_has_22 (d : Nat)  (μ : hs_M) : Option (Option hs_V × hs_M) := hs_ev d 68 22 [none, none] [] μ
theorem hp_Town_has : hs_prog 68 = (hs_k68, 2, 3) := rfl
set_option maxRecDepth 100000 in
theorem hq_Town_has (d : Nat) (x1 : Int32) (μ : hs_M)  : hc_Town_has (d + 1) x1 μ =
  (if x1 < 0 then he_Town_has_22 d μ else (if x1 < (μ.1 8 0 9) then (if x1 < (8 : Int32) then hs_rz (1 : Int32) μ else he_Town_has_22 d μ) else he_Town_has_22 d μ)) := by exact (hs_ev_go hp_Town_has [22] 16 0 _ [] μ).trans rfl
set_option maxRecDepth 100000 in
theorem hq_Town_has_22 (d : Nat)  (μ : hs_M)  : he_Town_has_22 d  μ =
  hs_rz (0 : Int32) μ := by exact (hs_ev_go hp_Town_has [22] 16 22 _ [] μ).trans rfl
noncomputable def he_Town_countOneMore_26 (d : Nat)  (μ : hs_M) : Option (Option hs_V × hs_M) := hs_ev d 69 26 [none] [] μ
theorem hp_Town_countOneMore : hs_prog 69 = (hs_k69, 1, 0) := rfl
set_option maxRecDepth 100000 in
theorem hq_Town_countOneMore (d : Nat)  (μ : hs_M)  : hc_Town_countOneMore (d + 1)  μ =
  (if (μ.1 8 0 9) < 0 then he_Town_countOneMore_26 d μ else (if (μ.1 8 0 9) < (8 : Int32) then he_Town_countOneMore_26 d (hs_wI μ 8 0 9 ((μ.1 8 0 9) + (1 : Int32))) else he_Town_countOneMore_26 d μ)) := by exact (hs_ev_go hp_Town_countOneMore [26] 17 0 _ [] μ).trans rfl
set_option maxRecDepth 100000 in
theorem hq_Town_countOneMore_26 (d : Nat)  (μ : hs_M)  : he_Town_countOneMore_26 d  μ =
  some (none, μ) := by exact (hs_ev_go hp_Town_countOneMore [26] 17 26 _ [] μ).trans rfl
theorem hp_Town_everyone : hs_prog 70 = (hs_k70, 1, 1) := rfl
set_option maxRecDepth 100000 in
theorem hq_Town_everyone (d : Nat)  (μ : hs_M)  : hc_Town_everyone (d + 1)  μ =
  some (some (vI (((1 : Int32) <<< ((μ.1 8 0 9) &&& 31)) - (1 : Int32))), μ) := by exact (hs_ev_go hp_Town_everyone [] 10 0 _ [] μ).trans rfl
noncomputable def he_Town_ofParty_4 (d : Nat) (x1 : Int32) (x2 : Int32) (x3 : Int32) (μ : hs_M) : Option (Option hs_V × hs_M) := hs_ev d 71 4 [some (vR 8 0), some (vI x1), some (vI x2), some (vI x3)] [] μ
noncomputable def he_Town_ofParty_28 (d : Nat) (x1 : Int32) (x2 : Int32) (x3 : Int32) (μ : hs_M) : Option (Option hs_V × hs_M) := hs_ev d 71 28 [some (vR 8 0), some (vI x1), some (vI x2), some (vI x3)] [] μ
theorem hp_Town_ofParty : hs_prog 71 = (hs_k71, 4, 1) := rfl
set_option maxRecDepth 100000 in
theorem hq_Town_ofParty (d : Nat) (x1 : Int32) (μ : hs_M)  : hc_Town_ofParty (d + 1) x1 μ =
  he_Town_ofParty_4 d x1 (0 : Int32) (0 : Int32) μ := by exact (hs_ev_go hp_Town_ofParty [4, 28] 27 0 _ [] μ).trans rfl
set_option maxRecDepth 100000 in
theorem hq_Town_ofParty_4 (d : Nat) (x1 : Int32) (x2 : Int32) (x3 : Int32) (μ : hs_M)  : he_Town_ofParty_4 d x1 x2 x3 μ =
  (if x3 < (μ.1 8 0 9) then (if hs_in x3 8 then (if (μ.1 15 0 (x3.toNatClampNeg)) = x1 then he_Town_ofParty_28 d x1 (x2 ||| ((1 : Int32) <<< (x3 &&& 31))) x3 μ else he_Town_ofParty_28 d x1 x2 x3 μ) else none) else some (some (vI x2), μ)) := by exact (hs_ev_go hp_Town_ofParty [4, 28] 27 4 _ [] μ).trans rfl
set_option maxRecDepth 100000 in
theorem hq_Town_ofParty_28 (d : Nat) (x1 : Int32) (x2 : Int32) (x3 : Int32) (μ : hs_M)  : he_Town_ofParty_28 d x1 x2 x3 μ =
  he_Town_ofParty_4 d x1 x2 (x3 + (1 : Int32)) μ := by exact (hs_ev_go hp_Town_ofParty [4, 28] 27 28 _ [] μ).trans rfl
noncomputable def he_Town_arriving_10 (d : Nat)  (μ : hs_M) : Option (Option hs_V × hs_M) := hs_ev d 72 10 [none, none] [] μ
theorem hp_Town_arriving : hs_prog 72 = (hs_k72, 2, 1) := rfl
set_option maxRecDepth 100000 in
theorem hq_Town_arriving (d : Nat) (x1 : Int32) (μ : hs_M)  : hc_Town_arriving (d + 1) x1 μ =
  (if x1 < 0 then he_Town_arriving_10 d μ else (if x1 < (8 : Int32) then (if hs_in x1 8 then some (some (vI (μ.1 19 0 (x1.toNatClampNeg))), μ) else none) else he_Town_arriving_10 d μ)) := by exact (hs_ev_go hp_Town_arriving [10] 15 0 _ [] μ).trans rfl
set_option maxRecDepth 100000 in
theorem hq_Town_arriving_10 (d : Nat)  (μ : hs_M)  : he_Town_arriving_10 d  μ =
  some (some (vI (1 : Int32)), μ) := by exact (hs_ev_go hp_Town_arriving [10] 15 10 _ [] μ).trans rfl
noncomputable def he_Town_changeAt_20 (d : Nat)  (μ : hs_M) : Option (Option hs_V × hs_M) := hs_ev d 73 20 [none, none, none, none] [] μ
theorem hp_Town_changeAt : hs_prog 73 = (hs_k73, 4, 1) := rfl
set_option maxRecDepth 100000 in
theorem hq_Town_changeAt (d : Nat) (x1 : Int32) (x2 : Int32) (μ : hs_M)  : hc_Town_changeAt (d + 1) x1 x2 μ =
  (if ((x1 * (6 : Int32)) + x2) < 0 then he_Town_changeAt_20 d μ else (if ((x1 * (6 : Int32)) + x2) < (48 : Int32) then (if hs_in ((x1 * (6 : Int32)) + x2) 48 then some (some (vI (μ.1 18 0 (((x1 * (6 : Int32)) + x2).toNatClampNeg))), μ) else none) else he_Town_changeAt_20 d μ)) := by exact (hs_ev_go hp_Town_changeAt [20] 23 0 _ [] μ).trans rfl
set_option maxRecDepth 100000 in
theorem hq_Town_changeAt_20 (d : Nat)  (μ : hs_M)  : he_Town_changeAt_20 d  μ =
  some (some (vI (0 : Int32)), μ) := by exact (hs_ev_go hp_Town_changeAt [20] 23 20 _ [] μ).trans rfl
noncomputable def he_Town_changeWeights_2 (d : Nat) (j1 : Nat) (x2 : Int32) (μ : hs_M) : Option (Option hs_V × hs_M) := hs_ev d 74 2 [some (vR 8 0), some (vR 6 j1), some (vI x2), none, none] [] μ
noncomputable def he_Town_changeWeights_67 (d : Nat) (j1 : Nat) (x2 : Int32) (μ : hs_M) : Option (Option hs_V × hs_M) := hs_ev d 74 67 [some (vR 8 0), some (vR 6 j1), some (vI x2), none, none] [] μ
theorem hp_Town_changeWeights : hs_prog 74 = (hs_k74, 5, 0) := rfl
set_option maxRecDepth 100000 in
theorem hq_Town_changeWeights (d : Nat) (j1 : Nat) (μ : hs_M)  : hc_Town_changeWeights (d + 1) j1 μ =
  he_Town_changeWeights_2 d j1 (0 : Int32) μ := by exact (hs_ev_go hp_Town_changeWeights [2, 67] 46 0 _ [] μ).trans rfl
set_option maxRecDepth 100000 in
theorem hq_Town_changeWeights_2 (d : Nat) (j1 : Nat) (x2 : Int32) (μ : hs_M)  : he_Town_changeWeights_2 d j1 x2 μ =
  (if x2 < (μ.1 8 0 9) then (if hs_in x2 8 then (if 0 < (μ.1 17 0 (x2.toNatClampNeg)) then hs_bI (hc_State_lives d j1 x2 μ) (fun r1 μ1 => (if r1 = 0 then he_Town_changeWeights_67 d j1 x2 μ1 else hs_bI (hc_Math_floorMod d (μ1.1 6 j1 0) (μ.1 17 0 (x2.toNatClampNeg)) μ1) (fun r2 μ2 => (if hs_in ((x2 * (6 : Int32)) + r2) 48 then (if hs_in x2 8 then hs_bI (hc_H_inBounds d ((μ2.1 24 j1 (x2.toNatClampNeg)) + (μ2.1 18 0 (((x2 * (6 : Int32)) + r2).toNatClampNeg))) μ2) (fun r3 μ3 => (if hs_in x2 8 then he_Town_changeWeights_67 d j1 x2 (hs_wI μ3 24 j1 (x2.toNatClampNeg) r3) else none)) else none) else none)))) else he_Town_changeWeights_67 d j1 x2 μ) else none) else some (none, μ)) := by exact (hs_ev_go hp_Town_changeWeights [2, 67] 46 2 _ [] μ).trans rfl
set_option maxRecDepth 100000 in
theorem hq_Town_changeWeights_67 (d : Nat) (j1 : Nat) (x2 : Int32) (μ : hs_M)  : he_Town_changeWeights_67 d j1 x2 μ =
  he_Town_changeWeights_2 d j1 (x2 + (1 : Int32)) μ := by exact (hs_ev_go hp_Town_changeWeights [2, 67] 46 67 _ [] μ).trans rfl
