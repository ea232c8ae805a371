/-! ===== the equations of the methods, 6 ===== -/
noncomputable def he_M_will_29 (d : Nat) (x1 : Int32) (μ : hs_M) : Option (Option hs_V × hs_M) := hs_ev d 193 29 [some (vR 12 0), some (vI x1), none, none, none] [] μ
noncomputable def he_M_will_61 (d : Nat) (x4 : Int32) (μ : hs_M) : Option (Option hs_V × hs_M) := hs_ev d 193 61 [some (vR 12 0), none, none, none, some (vI x4)] [] μ
theorem hp_M_will : hs_prog 193 = (hs_k193, 5, 1) := rfl
set_option maxRecDepth 100000 in
theorem hq_M_will (d : Nat)  (μ : hs_M)  : hc_M_will (d + 1)  μ =
  hs_bI (hc_M_begins d (40 : Int32) (hs_wI μ 12 0 0 (0 : Int32))) (fun r1 μ1 => (if r1 = 0 then he_M_will_29 d r1 (hs_wI μ1 12 0 25 (0 : Int32)) else hs_bI (hc_M_readsRank d (0 : Int32) (hs_wI μ1 12 0 25 (0 : Int32))) (fun r2 μ2 => (if r2 = 0 then hs_bI (hc_M_faultOf d r1 (40 : Int32) (0 : Int32) μ2) (fun r3 μ3 => (if r3 < 0 then some (some (vI r3), μ3) else he_M_will_61 d (0 : Int32) (hs_wI μ3 12 0 24 (μ3.1 12 0 25)))) else he_M_will_29 d r1 μ2)))) := by exact (hs_ev_go hp_M_will [29, 61] 55 0 _ [] μ).trans rfl
set_option maxRecDepth 100000 in
theorem hq_M_will_29 (d : Nat) (x1 : Int32) (μ : hs_M)  : he_M_will_29 d x1 μ =
  hs_bI (hc_M_faultOf d x1 (40 : Int32) (1 : Int32) μ) (fun r1 μ1 => (if r1 < 0 then some (some (vI r1), μ1) else he_M_will_61 d (0 : Int32) (hs_wI μ1 12 0 24 (μ1.1 12 0 25)))) := by exact (hs_ev_go hp_M_will [29, 61] 55 29 _ [] μ).trans rfl
set_option maxRecDepth 100000 in
theorem hq_M_will_61 (d : Nat) (x4 : Int32) (μ : hs_M)  : he_M_will_61 d x4 μ =
  (if x4 < (μ.1 12 0 25) then (if hs_in x4 80 then (if hs_in x4 80 then he_M_will_61 d (x4 + (1 : Int32)) (hs_wI μ 52 0 (x4.toNatClampNeg) (μ.1 53 0 (x4.toNatClampNeg))) else none) else none) else some (some (vI (0 : Int32)), μ)) := by exact (hs_ev_go hp_M_will [29, 61] 55 61 _ [] μ).trans rfl
noncomputable def he_M_holding_4 (d : Nat) (κ1 : Nat) (x2 : Int32) (x3 : Int32) (μ : hs_M) : Option (Option hs_V × hs_M) := hs_ev d 194 4 [none, some (vR κ1 0), some (vI x2), some (vI x3)] [] μ
theorem hp_M_holding : hs_prog 194 = (hs_k194, 4, 1) := rfl
set_option maxRecDepth 100000 in
theorem hq_M_holding (d : Nat) (κ1 : Nat) (μ : hs_M) (hκ1 : κ1 = 45 ∨ κ1 = 46 ∨ κ1 = 65) : hc_M_holding (d + 1) κ1 μ =
  he_M_holding_4 d κ1 (0 : Int32) (0 : Int32) μ := by rcases hκ1 with rfl | rfl | rfl <;> exact (hs_ev_go hp_M_holding [4] 29 0 _ [] μ).trans rfl
set_option maxRecDepth 100000 in
theorem hq_M_holding_4 (d : Nat) (κ1 : Nat) (x2 : Int32) (x3 : Int32) (μ : hs_M) (hκ1 : κ1 = 45 ∨ κ1 = 46 ∨ κ1 = 65) : he_M_holding_4 d κ1 x2 x3 μ =
  (if x3 < (μ.1 κ1 0 20) then (if hs_in ((45 : Int32) + x3) 117 then (if (μ.1 κ1 0 (((45 : Int32) + x3).toNatClampNeg)) < 0 then hs_bI (hc_M_flag d (1 : Int32) μ) (fun r1 μ1 => he_M_holding_4 d κ1 (x2 + r1) (x3 + (1 : Int32)) μ1) else hs_bI (hc_M_flag d (0 : Int32) μ) (fun r2 μ2 => he_M_holding_4 d κ1 (x2 + r2) (x3 + (1 : Int32)) μ2)) else none) else some (some (vI x2), μ)) := by rcases hκ1 with rfl | rfl | rfl <;> exact (hs_ev_go hp_M_holding [4] 29 4 _ [] μ).trans rfl
theorem hp_M_thingOf : hs_prog 195 = (hs_k195, 5, 1) := rfl
set_option maxRecDepth 100000 in
theorem hq_M_thingOf (d : Nat) (κ1 : Nat) (x2 : Int32) (x3 : Int32) (μ : hs_M) (hκ1 : κ1 = 45 ∨ κ1 = 46 ∨ κ1 = 65) : hc_M_thingOf (d + 1) κ1 x2 x3 μ =
  (if x3 = (0 : Int32) then some (some (vI x2), μ) else (if x3 = (1 : Int32) then (if hs_in x2 117 then some (some (vI (μ.1 κ1 0 (x2.toNatClampNeg))), μ) else none) else (if x3 = (2 : Int32) then (if hs_in x2 8 then some (some (vI (μ.1 41 0 (x2.toNatClampNeg))), μ) else none) else (if x3 = (3 : Int32) then (if (μ.1 κ1 0 17) < 0 then some (some (vI (0 : Int32)), μ) else (if hs_in (μ.1 κ1 0 17) 117 then some (some (vI (μ.1 κ1 0 ((μ.1 κ1 0 17).toNatClampNeg))), μ) else none)) else (if x3 = (4 : Int32) then (if (μ.1 κ1 0 17) < 0 then some (some (vI (-1 : Int32)), μ) else (if hs_in (μ.1 κ1 0 17) 8 then some (some (vI (μ.1 41 0 ((μ.1 κ1 0 17).toNatClampNeg))), μ) else none)) else (if x3 = (5 : Int32) then (if (μ.1 κ1 0 17) < 0 then some (some (vI (0 : Int32)), μ) else some (some (vI (μ.1 κ1 0 18)), μ)) else (if x3 = (6 : Int32) then hs_bI (hc_M_holding d κ1 μ) (fun r1 μ1 => some (some (vI r1), μ1)) else (if x3 = (7 : Int32) then (if hs_in ((8 : Int32) + x2) 117 then some (some (vI (μ.1 κ1 0 (((8 : Int32) + x2).toNatClampNeg))), μ) else none) else some (some (vI (μ.1 κ1 0 19)), μ))))))))) := by rcases hκ1 with rfl | rfl | rfl <;> exact (hs_ev_go hp_M_thingOf [] 59 0 _ [] μ).trans rfl
theorem hp_M_worked : hs_prog 196 = (hs_k196, 3, 1) := rfl
set_option maxRecDepth 100000 in
theorem hq_M_worked (d : Nat) (x0 : Int32) (x1 : Int32) (x2 : Int32) (μ : hs_M)  : hc_M_worked (d + 1) x0 x1 x2 μ =
  (if x0 = (0 : Int32) then (if x1 < x2 then hs_bI (hc_M_flag d (1 : Int32) μ) (fun r5 μ5 => some (some (vI r5), μ5)) else hs_bI (hc_M_flag d (0 : Int32) μ) (fun r6 μ6 => some (some (vI r6), μ6))) else (if x0 = (1 : Int32) then (if x2 < x1 then hs_bI (hc_M_flag d (1 : Int32) μ) (fun r3 μ3 => some (some (vI r3), μ3)) else hs_bI (hc_M_flag d (0 : Int32) μ) (fun r4 μ4 => some (some (vI r4), μ4))) else (if x0 = (2 : Int32) then (if x1 = x2 then hs_bI (hc_M_flag d (1 : Int32) μ) (fun r1 μ1 => some (some (vI r1), μ1)) else hs_bI (hc_M_flag d (0 : Int32) μ) (fun r2 μ2 => some (some (vI r2), μ2))) else (if x0 = (3 : Int32) then some (some (vI (x1 + x2)), μ) else (if x0 = (4 : Int32) then some (some (vI (x1 - x2)), μ) else (if x0 = (5 : Int32) then some (some (vI (x1 * x2)), μ) else (if x2 = 0 then some (some (vI (0 : Int32)), μ) else (if x2 = 0 then none else some (some (vI (x1 / x2)), μ))))))))) := by exact (hs_ev_go hp_M_worked [] 49 0 _ [] μ).trans rfl
noncomputable def he_M_willOf_14 (d : Nat) (κ1 : Nat) (x2 : Int32) (x3 : Int32) (x4 : Int32) (μ : hs_M) : Option (Option hs_V × hs_M) := hs_ev d 197 14 [some (vR 12 0), some (vR κ1 0), some (vI x2), some (vI x3), some (vI x4), none] [] μ
noncomputable def he_M_willOf_71 (d : Nat) (κ1 : Nat) (x2 : Int32) (x3 : Int32) (x4 : Int32) (x5 : Int32) (μ : hs_M) : Option (Option hs_V × hs_M) := hs_ev d 197 71 [some (vR 12 0), some (vR κ1 0), some (vI x2), some (vI x3), some (vI x4), some (vI x5)] [] μ
noncomputable def he_M_willOf_139 (d : Nat) (κ1 : Nat) (x2 : Int32) (x3 : Int32) (x4 : Int32) (μ : hs_M) : Option (Option hs_V × hs_M) := hs_ev d 197 139 [some (vR 12 0), some (vR κ1 0), some (vI x2), some (vI x3), some (vI x4), none] [] μ
theorem hp_M_willOf : hs_prog 197 = (hs_k197, 6, 1) := rfl
set_option maxRecDepth 100000 in
theorem hq_M_willOf (d : Nat) (κ1 : Nat) (x2 : Int32) (μ : hs_M) (hκ1 : κ1 = 45 ∨ κ1 = 46 ∨ κ1 = 65) : hc_M_willOf (d + 1) κ1 x2 μ =
  (if (μ.1 12 0 24) = 0 then some (some (vI (1 : Int32)), μ) else he_M_willOf_14 d κ1 x2 (0 : Int32) (0 : Int32) μ) := by rcases hκ1 with rfl | rfl | rfl <;> exact (hs_ev_go hp_M_willOf [14, 71, 139] 87 0 _ [] μ).trans rfl
set_option maxRecDepth 100000 in
theorem hq_M_willOf_14 (d : Nat) (κ1 : Nat) (x2 : Int32) (x3 : Int32) (x4 : Int32) (μ : hs_M) (hκ1 : κ1 = 45 ∨ κ1 = 46 ∨ κ1 = 65) : he_M_willOf_14 d κ1 x2 x3 x4 μ =
  (if x4 < (μ.1 12 0 24) then (if hs_in x4 80 then (if (μ.1 52 0 (x4.toNatClampNeg)) = (3000 : Int32) then (if hs_in (x3 - (1 : Int32)) 80 then (if hs_in (x3 - (1 : Int32)) 80 then he_M_willOf_139 d κ1 x2 x3 x4 (hs_wI μ 54 0 ((x3 - (1 : Int32)).toNatClampNeg) (-(μ.1 54 0 ((x3 - (1 : Int32)).toNatClampNeg)))) else none) else none) else (if (μ.1 52 0 (x4.toNatClampNeg)) < (2000 : Int32) then (if (μ.1 52 0 (x4.toNatClampNeg)) < (1000 : Int32) then (if hs_in x3 80 then he_M_willOf_139 d κ1 x2 (x3 + (1 : Int32)) x4 (hs_wI μ 54 0 (x3.toNatClampNeg) (μ.1 52 0 (x4.toNatClampNeg))) else none) else hs_bI (hc_M_thingOf d κ1 x2 ((μ.1 52 0 (x4.toNatClampNeg)) - (1000 : Int32)) μ) (fun r1 μ1 => (if hs_in x3 80 then he_M_willOf_139 d κ1 x2 (x3 + (1 : Int32)) x4 (hs_wI μ1 54 0 (x3.toNatClampNeg) r1) else none))) else he_M_willOf_71 d κ1 x2 (x3 + hs_ic (-1)) x4 (μ.1 52 0 (x4.toNatClampNeg)) μ)) else none) else some (some (vI (μ.1 54 0 0)), μ)) := by rcases hκ1 with rfl | rfl | rfl <;> exact (hs_ev_go hp_M_willOf [14, 71, 139] 87 14 _ [] μ).trans rfl
set_option maxRecDepth 100000 in
theorem hq_M_willOf_71 (d : Nat) (κ1 : Nat) (x2 : Int32) (x3 : Int32) (x4 : Int32) (x5 : Int32) (μ : hs_M) (hκ1 : κ1 = 45 ∨ κ1 = 46 ∨ κ1 = 65) : he_M_willOf_71 d κ1 x2 x3 x4 x5 μ =
  (if hs_in (x3 - (1 : Int32)) 80 then (if hs_in x3 80 then hs_bI (hc_M_worked d (x5 - (2000 : Int32)) (μ.1 54 0 ((x3 - (1 : Int32)).toNatClampNeg)) (μ.1 54 0 (x3.toNatClampNeg)) μ) (fun r1 μ1 => (if hs_in (x3 - (1 : Int32)) 80 then he_M_willOf_139 d κ1 x2 x3 x4 (hs_wI μ1 54 0 ((x3 - (1 : Int32)).toNatClampNeg) r1) else none)) else none) else none) := by rcases hκ1 with rfl | rfl | rfl <;> exact (hs_ev_go hp_M_willOf [14, 71, 139] 87 71 _ [] μ).trans rfl
set_option maxRecDepth 100000 in
theorem hq_M_willOf_139 (d : Nat) (κ1 : Nat) (x2 : Int32) (x3 : Int32) (x4 : Int32) (μ : hs_M) (hκ1 : κ1 = 45 ∨ κ1 = 46 ∨ κ1 = 65) : he_M_willOf_139 d κ1 x2 x3 x4 μ =
  he_M_willOf_14 d κ1 x2 x3 (x4 + (1 : Int32)) μ := by rcases hκ1 with rfl | rfl | rfl <;> exact (hs_ev_go hp_M_willOf [14, 71, 139] 87 139 _ [] μ).trans rfl
noncomputable def he_M_willing_4 (d : Nat) (κ1 : Nat) (x2 : Int32) (x3 : Int32) (μ : hs_M) : Option (Option hs_V × hs_M) := hs_ev d 198 4 [some (vR 12 0), some (vR κ1 0), some (vI x2), some (vI x3)] [] μ
theorem hp_M_willing : hs_prog 198 = (hs_k198, 4, 1) := rfl
set_option maxRecDepth 100000 in
theorem hq_M_willing (d : Nat) (κ1 : Nat) (μ : hs_M) (hκ1 : κ1 = 45 ∨ κ1 = 46 ∨ κ1 = 65) : hc_M_willing (d + 1) κ1 μ =
  he_M_willing_4 d κ1 (0 : Int32) (0 : Int32) μ := by rcases hκ1 with rfl | rfl | rfl <;> exact (hs_ev_go hp_M_willing [4] 34 0 _ [] μ).trans rfl
set_option maxRecDepth 100000 in
theorem hq_M_willing_4 (d : Nat) (κ1 : Nat) (x2 : Int32) (x3 : Int32) (μ : hs_M) (hκ1 : κ1 = 45 ∨ κ1 = 46 ∨ κ1 = 65) : he_M_willing_4 d κ1 x2 x3 μ =
  (if x3 < (μ.1 12 0 3) then hs_bI (hc_M_has d (μ.1 κ1 0 16) x3 μ) (fun r1 μ1 => (if r1 = 0 then he_M_willing_4 d κ1 (x2 ||| (0 : Int32)) (x3 + (1 : Int32)) μ1 else hs_bI (hc_M_willOf d κ1 x3 μ1) (fun r2 μ2 => (if r2 = 0 then he_M_willing_4 d κ1 (x2 ||| (0 : Int32)) (x3 + (1 : Int32)) μ2 else he_M_willing_4 d κ1 (x2 ||| ((1 : Int32) <<< (x3 &&& 31))) (x3 + (1 : Int32)) μ2)))) else some (some (vI x2), μ)) := by rcases hκ1 with rfl | rfl | rfl <;> exact (hs_ev_go hp_M_willing [4] 34 4 _ [] μ).trans rfl
theorem hp_M_shows : hs_prog 199 = (hs_k199, 3, 1) := rfl
set_option maxRecDepth 100000 in
theorem hq_M_shows (d : Nat) (x1 : Int32) (μ : hs_M)  : hc_M_shows (d + 1) x1 μ =
  hs_bI (hc_Math_max d (0 : Int32) (x1 + (μ.1 12 0 9)) μ) (fun r1 μ1 => (if (μ1.1 12 0 8) = 0 then none else some (some (vI (r1 - (r1 - r1 / (μ1.1 12 0 8) * (μ1.1 12 0 8)))), μ1))) := by exact (hs_ev_go hp_M_shows [] 17 0 _ [] μ).trans rfl
noncomputable def he_M_of_25 (d : Nat)  (μ : hs_M) : Option (Option hs_V × hs_M) := hs_ev d 200 25 [some (vR 12 0), none, none] [] μ
theorem hp_M_of : hs_prog 200 = (hs_k200, 3, 1) := rfl
set_option maxRecDepth 100000 in
theorem hq_M_of (d : Nat) (x1 : Int32) (x2 : Int32) (μ : hs_M)  : hc_M_of (d + 1) x1 x2 μ =
  hs_bI (hc_M_isPerson d x1 (hs_wI μ 12 0 0 (0 : Int32))) (fun r1 μ1 => (if r1 = 0 then he_M_of_25 d μ1 else hs_bI (hc_M_in d (x2.toInt64) (0 : Int64) (7 : Int64) μ1) (fun r2 μ2 => (if r2 = 0 then he_M_of_25 d μ2 else (if x2 = (0 : Int32) then (if hs_in x1 117 then some (some (vI (μ2.1 45 0 (x1.toNatClampNeg))), μ2) else none) else (if x2 = (1 : Int32) then (if hs_in x1 8 then some (some (vI (μ2.1 41 0 (x1.toNatClampNeg))), μ2) else none) else (if x2 = (2 : Int32) then (if hs_in x1 8 then some (some (vI (μ2.1 42 0 (x1.toNatClampNeg))), μ2) else none) else (if x2 = (3 : Int32) then hs_bI (hc_M_has d (μ2.1 45 0 16) x1 μ2) (fun r5 μ5 => hs_bI (hc_M_flag d r5 μ5) (fun r6 μ6 => some (some (vI r6), μ6))) else (if x2 = (4 : Int32) then (if hs_in ((8 : Int32) + x1) 117 then some (some (vI (μ2.1 45 0 (((8 : Int32) + x1).toNatClampNeg))), μ2) else none) else (if x2 = (5 : Int32) then (if hs_in x1 117 then hs_bI (hc_M_shows d (μ2.1 45 0 (x1.toNatClampNeg)) μ2) (fun r4 μ4 => some (some (vI r4), μ4)) else none) else (if x2 = (6 : Int32) then hs_bI (hc_M_willOf d 45 x1 μ2) (fun r3 μ3 => some (some (vI r3), μ3)) else (if hs_in x1 8 then some (some (vI (μ2.1 44 0 (x1.toNatClampNeg))), μ2) else none)))))))))))) := by exact (hs_ev_go hp_M_of [25] 69 0 _ [] μ).trans rfl
set_option maxRecDepth 100000 in
theorem hq_M_of_25 (d : Nat)  (μ : hs_M)  : he_M_of_25 d  μ =
  hs_bI (hc_M_refuse d μ) (fun r1 μ1 => some (some (vI r1), μ1)) := by exact (hs_ev_go hp_M_of [25] 69 25 _ [] μ).trans rfl
noncomputable def he_M_change_31 (d : Nat)  (μ : hs_M) : Option (Option hs_V × hs_M) := hs_ev d 201 31 [some (vR 12 0), none, none] [] μ
theorem hp_M_change : hs_prog 201 = (hs_k201, 3, 1) := rfl
set_option maxRecDepth 100000 in
theorem hq_M_change (d : Nat) (x1 : Int32) (x2 : Int32) (μ : hs_M)  : hc_M_change (d + 1) x1 x2 μ =
  hs_bI (hc_M_isPerson d x1 (hs_wI μ 12 0 0 (0 : Int32))) (fun r1 μ1 => (if r1 = 0 then he_M_change_31 d μ1 else (if hs_in x1 8 then hs_bI (hc_M_in d (x2.toInt64) (0 : Int64) (((μ1.1 44 0 (x1.toNatClampNeg)) - (1 : Int32)).toInt64) μ1) (fun r2 μ2 => (if r2 = 0 then he_M_change_31 d μ2 else (if hs_in (((6 : Int32) * x1) + x2) 48 then some (some (vI (μ2.1 43 0 ((((6 : Int32) * x1) + x2).toNatClampNeg))), μ2) else none))) else none))) := by exact (hs_ev_go hp_M_change [31] 34 0 _ [] μ).trans rfl
set_option maxRecDepth 100000 in
theorem hq_M_change_31 (d : Nat)  (μ : hs_M)  : he_M_change_31 d  μ =
  hs_bI (hc_M_refuse d μ) (fun r1 μ1 => some (some (vI r1), μ1)) := by exact (hs_ev_go hp_M_change [31] 34 31 _ [] μ).trans rfl
noncomputable def he_M_set_59 (d : Nat) (x1 : Int32) (x2 : Int32) (x3 : Int32) (μ : hs_M) : Option (Option hs_V × hs_M) := hs_ev d 202 59 [some (vR 12 0), some (vI x1), some (vI x2), some (vI x3), none, none, none] [] μ
noncomputable def he_M_set_75 (d : Nat)  (μ : hs_M) : Option (Option hs_V × hs_M) := hs_ev d 202 75 [none, none, none, none, none, none, none] [] μ
theorem hp_M_set : hs_prog 202 = (hs_k202, 7, 1) := rfl
set_option maxRecDepth 100000 in
theorem hq_M_set (d : Nat) (x1 : Int32) (x2 : Int32) (x3 : Int32) (μ : hs_M)  : hc_M_set (d + 1) x1 x2 x3 μ =
  (if x1 = 0 then hs_bI (hc_M_in d (x3.toInt64) (1 : Int64) (999 : Int64) (hs_wI μ 12 0 0 (0 : Int32))) (fun r1 μ1 => hs_bI (hc_M_isPerson d x2 μ1) (fun r2 μ2 => (if r2 = 0 then he_M_set_75 d μ2 else (if r1 = 0 then he_M_set_75 d μ2 else (if x1 = 0 then (if hs_in x2 117 then (if hs_in x2 117 then some (some (vI (μ2.1 45 0 (x2.toNatClampNeg))), (hs_wI μ2 45 0 (x2.toNatClampNeg) x3)) else none) else none) else (if x1 = (1 : Int32) then (if hs_in x2 8 then (if hs_in x2 8 then some (some (vI (μ2.1 41 0 (x2.toNatClampNeg))), (hs_wI μ2 41 0 (x2.toNatClampNeg) x3)) else none) else none) else (if hs_in x2 8 then (if hs_in x2 8 then some (some (vI (μ2.1 42 0 (x2.toNatClampNeg))), (hs_wI μ2 42 0 (x2.toNatClampNeg) x3)) else none) else none))))))) else (if x1 = (1 : Int32) then hs_bI (hc_M_in d (x3.toInt64) (0 : Int64) (3 : Int64) (hs_wI μ 12 0 0 (0 : Int32))) (fun r3 μ3 => hs_bI (hc_M_isPerson d x2 μ3) (fun r4 μ4 => (if r4 = 0 then he_M_set_75 d μ4 else (if r3 = 0 then he_M_set_75 d μ4 else (if x1 = 0 then (if hs_in x2 117 then (if hs_in x2 117 then some (some (vI (μ4.1 45 0 (x2.toNatClampNeg))), (hs_wI μ4 45 0 (x2.toNatClampNeg) x3)) else none) else none) else (if x1 = (1 : Int32) then (if hs_in x2 8 then (if hs_in x2 8 then some (some (vI (μ4.1 41 0 (x2.toNatClampNeg))), (hs_wI μ4 41 0 (x2.toNatClampNeg) x3)) else none) else none) else (if hs_in x2 8 then (if hs_in x2 8 then some (some (vI (μ4.1 42 0 (x2.toNatClampNeg))), (hs_wI μ4 42 0 (x2.toNatClampNeg) x3)) else none) else none))))))) else (if x1 = (2 : Int32) then hs_bI (hc_M_in d (x3.toInt64) (0 : Int64) (9 : Int64) (hs_wI μ 12 0 0 (0 : Int32))) (fun r5 μ5 => (if r5 = 0 then he_M_set_59 d x1 x2 x3 μ5 else hs_bI (hc_M_isPerson d x2 μ5) (fun r6 μ6 => (if r6 = 0 then he_M_set_75 d μ6 else (if x1 = 0 then (if hs_in x2 117 then (if hs_in x2 117 then some (some (vI (μ6.1 45 0 (x2.toNatClampNeg))), (hs_wI μ6 45 0 (x2.toNatClampNeg) x3)) else none) else none) else (if x1 = (1 : Int32) then (if hs_in x2 8 then (if hs_in x2 8 then some (some (vI (μ6.1 41 0 (x2.toNatClampNeg))), (hs_wI μ6 41 0 (x2.toNatClampNeg) x3)) else none) else none) else (if hs_in x2 8 then (if hs_in x2 8 then some (some (vI (μ6.1 42 0 (x2.toNatClampNeg))), (hs_wI μ6 42 0 (x2.toNatClampNeg) x3)) else none) else none))))))) else he_M_set_59 d x1 x2 x3 (hs_wI μ 12 0 0 (0 : Int32))))) := by exact (hs_ev_go hp_M_set [59, 75] 68 0 _ [] μ).trans rfl
set_option maxRecDepth 100000 in
theorem hq_M_set_59 (d : Nat) (x1 : Int32) (x2 : Int32) (x3 : Int32) (μ : hs_M)  : he_M_set_59 d x1 x2 x3 μ =
  hs_bI (hc_M_isPerson d x2 μ) (fun r1 μ1 => (if r1 = 0 then he_M_set_75 d μ1 else he_M_set_75 d μ1)) := by exact (hs_ev_go hp_M_set [59, 75] 68 59 _ [] μ).trans rfl
set_option maxRecDepth 100000 in
theorem hq_M_set_75 (d : Nat)  (μ : hs_M)  : he_M_set_75 d  μ =
  some (some (vI (-1 : Int32)), μ) := by exact (hs_ev_go hp_M_set [59, 75] 68 75 _ [] μ).trans rfl
noncomputable def he_M_scale_28 (d : Nat) (x1 : Int32) (x2 : Int32) (μ : hs_M) : Option (Option hs_V × hs_M) := hs_ev d 203 28 [some (vR 12 0), some (vI x1), some (vI x2)] [] μ
noncomputable def he_M_scale_54 (d : Nat)  (μ : hs_M) : Option (Option hs_V × hs_M) := hs_ev d 203 54 [none, none, none] [] μ
theorem hp_M_scale : hs_prog 203 = (hs_k203, 3, 3) := rfl
set_option maxRecDepth 100000 in
theorem hq_M_scale (d : Nat) (x1 : Int32) (x2 : Int32) (μ : hs_M)  : hc_M_scale (d + 1) x1 x2 μ =
  (if x1 = 0 then hs_bI (hc_M_in d (x2.toInt64) (1 : Int64) (9 : Int64) (hs_wI μ 12 0 0 (0 : Int32))) (fun r1 μ1 => (if r1 = 0 then he_M_scale_28 d x1 x2 μ1 else hs_rz (1 : Int32) (hs_wI μ1 12 0 8 x2))) else he_M_scale_28 d x1 x2 (hs_wI μ 12 0 0 (0 : Int32))) := by exact (hs_ev_go hp_M_scale [28, 54] 35 0 _ [] μ).trans rfl
set_option maxRecDepth 100000 in
theorem hq_M_scale_28 (d : Nat) (x1 : Int32) (x2 : Int32) (μ : hs_M)  : he_M_scale_28 d x1 x2 μ =
  (if x1 = (1 : Int32) then hs_bI (hc_M_in d (x2.toInt64) (-9 : Int64) (9 : Int64) μ) (fun r1 μ1 => (if r1 = 0 then he_M_scale_54 d μ1 else hs_rz (1 : Int32) (hs_wI μ1 12 0 9 x2))) else he_M_scale_54 d μ) := by exact (hs_ev_go hp_M_scale [28, 54] 35 28 _ [] μ).trans rfl
set_option maxRecDepth 100000 in
theorem hq_M_scale_54 (d : Nat)  (μ : hs_M)  : he_M_scale_54 d  μ =
  hs_rz (0 : Int32) μ := by exact (hs_ev_go hp_M_scale [28, 54] 35 54 _ [] μ).trans rfl
noncomputable def he_M_sheet_23 (d : Nat)  (μ : hs_M) : Option (Option hs_V × hs_M) := hs_ev d 204 23 [none, none, none, none, none, none, none, none, none] [] μ
noncomputable def he_M_sheet_37 (d : Nat) (x1 : Int32) (x2 : Int32) (x3 : Int32) (x4 : Int32) (μ : hs_M) : Option (Option hs_V × hs_M) := hs_ev d 204 37 [some (vR 12 0), some (vI x1), some (vI x2), some (vI x3), some (vI x4), none, none, none, none] [] μ
noncomputable def he_M_sheet_46 (d : Nat) (x1 : Int32) (x2 : Int32) (x4 : Int32) (x5 : Int32) (x6 : Int32) (x7 : Int32) (μ : hs_M) : Option (Option hs_V × hs_M) := hs_ev d 204 46 [some (vR 12 0), some (vI x1), some (vI x2), none, some (vI x4), some (vI x5), some (vI x6), some (vI x7), none] [] μ
theorem hp_M_sheet : hs_prog 204 = (hs_k204, 9, 1) := rfl
set_option maxRecDepth 100000 in
theorem hq_M_sheet (d : Nat) (x1 : Int32) (x2 : Int32) (x3 : Int32) (x4 : Int32) (μ : hs_M)  : hc_M_sheet (d + 1) x1 x2 x3 x4 μ =
  hs_bI (hc_M_in d (x1.toInt64) (0 : Int64) (3 : Int64) (hs_wI μ 12 0 0 (0 : Int32))) (fun r1 μ1 => (if r1 = 0 then he_M_sheet_23 d μ1 else (if (8 : Int32) < x2 then he_M_sheet_23 d μ1 else (if x1 = (3 : Int32) then he_M_sheet_37 d x1 x2 x3 x4 μ1 else (if x2 < 0 then some (some (vI (-2 : Int32)), μ1) else he_M_sheet_37 d x1 x2 x3 x4 μ1))))) := by exact (hs_ev_go hp_M_sheet [23, 37, 46] 84 0 _ [] μ).trans rfl
set_option maxRecDepth 100000 in
theorem hq_M_sheet_23 (d : Nat)  (μ : hs_M)  : he_M_sheet_23 d  μ =
  some (some (vI (-1 : Int32)), μ) := by exact (hs_ev_go hp_M_sheet [23, 37, 46] 84 23 _ [] μ).trans rfl
set_option maxRecDepth 100000 in
theorem hq_M_sheet_37 (d : Nat) (x1 : Int32) (x2 : Int32) (x3 : Int32) (x4 : Int32) (μ : hs_M)  : he_M_sheet_37 d x1 x2 x3 x4 μ =
  he_M_sheet_46 d x1 x2 x4 (0 : Int32) x3 (0 : Int32) μ := by exact (hs_ev_go hp_M_sheet [23, 37, 46] 84 37 _ [] μ).trans rfl
set_option maxRecDepth 100000 in
theorem hq_M_sheet_46 (d : Nat) (x1 : Int32) (x2 : Int32) (x4 : Int32) (x5 : Int32) (x6 : Int32) (x7 : Int32) (μ : hs_M)  : he_M_sheet_46 d x1 x2 x4 x5 x6 x7 μ =
  (if x7 < (μ.1 12 0 3) then (if x1 = 0 then (if x1 = (3 : Int32) then (if hs_in x7 117 then (if hs_in x7 117 then he_M_sheet_46 d x1 x2 x4 (x5 + ((hs_wI μ 45 0 (x7.toNatClampNeg) (1 : Int32)).1 45 0 (x7.toNatClampNeg))) (x6 + x4) (x7 + (1 : Int32)) (hs_wI μ 45 0 (x7.toNatClampNeg) (1 : Int32)) else none) else none) else (if x7 < x2 then hs_bI (hc_Math_min d (999 : Int32) (x6.toInt8.toInt32) μ) (fun r1 μ1 => hs_bI (hc_Math_max d (1 : Int32) r1 μ1) (fun r2 μ2 => (if hs_in x7 117 then (if hs_in x7 117 then he_M_sheet_46 d x1 x2 x4 (x5 + ((hs_wI μ2 45 0 (x7.toNatClampNeg) r2).1 45 0 (x7.toNatClampNeg))) (x6 + x4) (x7 + (1 : Int32)) (hs_wI μ2 45 0 (x7.toNatClampNeg) r2) else none) else none))) else (if hs_in x7 117 then (if hs_in x7 117 then he_M_sheet_46 d x1 x2 x4 (x5 + ((hs_wI μ 45 0 (x7.toNatClampNeg) (1 : Int32)).1 45 0 (x7.toNatClampNeg))) (x6 + x4) (x7 + (1 : Int32)) (hs_wI μ 45 0 (x7.toNatClampNeg) (1 : Int32)) else none) else none))) else (if x1 = (1 : Int32) then (if x1 = (3 : Int32) then (if hs_in x7 117 then (if hs_in x7 117 then he_M_sheet_46 d x1 x2 x4 (x5 + ((hs_wI μ 45 0 (x7.toNatClampNeg) (1 : Int32)).1 45 0 (x7.toNatClampNeg))) (x6 + x4) (x7 + (1 : Int32)) (hs_wI μ 45 0 (x7.toNatClampNeg) (1 : Int32)) else none) else none) else (if x7 < x2 then hs_bI (hc_Math_min d (999 : Int32) (x6.toInt16.toInt32) μ) (fun r3 μ3 => hs_bI (hc_Math_max d (1 : Int32) r3 μ3) (fun r4 μ4 => (if hs_in x7 117 then (if hs_in x7 117 then he_M_sheet_46 d x1 x2 x4 (x5 + ((hs_wI μ4 45 0 (x7.toNatClampNeg) r4).1 45 0 (x7.toNatClampNeg))) (x6 + x4) (x7 + (1 : Int32)) (hs_wI μ4 45 0 (x7.toNatClampNeg) r4) else none) else none))) else (if hs_in x7 117 then (if hs_in x7 117 then he_M_sheet_46 d x1 x2 x4 (x5 + ((hs_wI μ 45 0 (x7.toNatClampNeg) (1 : Int32)).1 45 0 (x7.toNatClampNeg))) (x6 + x4) (x7 + (1 : Int32)) (hs_wI μ 45 0 (x7.toNatClampNeg) (1 : Int32)) else none) else none))) else (if x1 = (3 : Int32) then (if hs_in x7 117 then (if hs_in x7 117 then he_M_sheet_46 d x1 x2 x4 (x5 + ((hs_wI μ 45 0 (x7.toNatClampNeg) (1 : Int32)).1 45 0 (x7.toNatClampNeg))) (x6 + x4) (x7 + (1 : Int32)) (hs_wI μ 45 0 (x7.toNatClampNeg) (1 : Int32)) else none) else none) else (if x7 < x2 then hs_bI (hc_Math_min d (999 : Int32) x6 μ) (fun r5 μ5 => hs_bI (hc_Math_max d (1 : Int32) r5 μ5) (fun r6 μ6 => (if hs_in x7 117 then (if hs_in x7 117 then he_M_sheet_46 d x1 x2 x4 (x5 + ((hs_wI μ6 45 0 (x7.toNatClampNeg) r6).1 45 0 (x7.toNatClampNeg))) (x6 + x4) (x7 + (1 : Int32)) (hs_wI μ6 45 0 (x7.toNatClampNeg) r6) else none) else none))) else (if hs_in x7 117 then (if hs_in x7 117 then he_M_sheet_46 d x1 x2 x4 (x5 + ((hs_wI μ 45 0 (x7.toNatClampNeg) (1 : Int32)).1 45 0 (x7.toNatClampNeg))) (x6 + x4) (x7 + (1 : Int32)) (hs_wI μ 45 0 (x7.toNatClampNeg) (1 : Int32)) else none) else none))))) else (if x1 = (3 : Int32) then some (some (vI (-3 : Int32)), μ) else some (some (vI x5), μ))) := by exact (hs_ev_go hp_M_sheet [23, 37, 46] 84 46 _ [] μ).trans rfl
noncomputable def he_M_goes_5 (d : Nat) (κ1 : Nat) (x2 : Int32) (x3 : Int32) (x4 : Int32) (μ : hs_M) : Option (Option hs_V × hs_M) := hs_ev d 205 5 [some (vR 12 0), some (vR κ1 0), some (vI x2), some (vI x3), some (vI x4), none] [] μ
noncomputable def he_M_goes_48 (d : Nat) (κ1 : Nat) (x2 : Int32) (x3 : Int32) (x4 : Int32) (μ : hs_M) : Option (Option hs_V × hs_M) := hs_ev d 205 48 [some (vR 12 0), some (vR κ1 0), some (vI x2), some (vI x3), some (vI x4), none] [] μ
noncomputable def he_M_goes_78 (d : Nat) (κ1 : Nat) (x2 : Int32) (x4 : Int32) (μ : hs_M) : Option (Option hs_V × hs_M) := hs_ev d 205 78 [some (vR 12 0), some (vR κ1 0), some (vI x2), none, some (vI x4), none] [] μ
noncomputable def he_M_goes_83 (d : Nat) (κ1 : Nat) (x2 : Int32) (x3 : Int32) (x4 : Int32) (μ : hs_M) : Option (Option hs_V × hs_M) := hs_ev d 205 83 [some (vR 12 0), some (vR κ1 0), some (vI x2), some (vI x3), some (vI x4), none] [] μ
noncomputable def he_M_goes_122 (d : Nat) (κ1 : Nat) (x3 : Int32) (μ : hs_M) : Option (Option hs_V × hs_M) := hs_ev d 205 122 [some (vR 12 0), some (vR κ1 0), none, some (vI x3), none, none] [] μ
noncomputable def he_M_goes_146 (d : Nat) (κ1 : Nat) (μ : hs_M) : Option (Option hs_V × hs_M) := hs_ev d 205 146 [some (vR 12 0), some (vR κ1 0), none, none, none, none] [] μ
noncomputable def he_M_goes_174 (d : Nat) (κ1 : Nat) (μ : hs_M) : Option (Option hs_V × hs_M) := hs_ev d 205 174 [some (vR 12 0), some (vR κ1 0), none, none, none, none] [] μ
noncomputable def he_M_goes_193 (d : Nat) (κ1 : Nat) (x4 : Int32) (μ : hs_M) : Option (Option hs_V × hs_M) := hs_ev d 205 193 [some (vR 12 0), some (vR κ1 0), none, none, some (vI x4), none] [] μ
noncomputable def he_M_goes_266 (d : Nat) (κ1 : Nat) (x4 : Int32) (μ : hs_M) : Option (Option hs_V × hs_M) := hs_ev d 205 266 [some (vR 12 0), some (vR κ1 0), none, none, some (vI x4), none] [] μ
theorem hp_M_goes : hs_prog 205 = (hs_k205, 6, 0) := rfl
set_option maxRecDepth 100000 in
theorem hq_M_goes (d : Nat) (κ1 : Nat) (x2 : Int32) (μ : hs_M) (hκ1 : κ1 = 45 ∨ κ1 = 46 ∨ κ1 = 65) : hc_M_goes (d + 1) κ1 x2 μ =
  he_M_goes_5 d κ1 x2 (-1 : Int32) (0 : Int32) μ := by rcases hκ1 with rfl | rfl | rfl <;> exact (hs_ev_go hp_M_goes [5, 48, 78, 83, 122, 146, 174, 193, 266] 173 0 _ [] μ).trans rfl
set_option maxRecDepth 100000 in
theorem hq_M_goes_5 (d : Nat) (κ1 : Nat) (x2 : Int32) (x3 : Int32) (x4 : Int32) (μ : hs_M) (hκ1 : κ1 = 45 ∨ κ1 = 46 ∨ κ1 = 65) : he_M_goes_5 d κ1 x2 x3 x4 μ =
  (if x4 < (μ.1 12 0 3) then hs_bI (hc_M_has d x2 x4 μ) (fun r1 μ1 => (if r1 = 0 then he_M_goes_48 d κ1 x2 x3 x4 μ1 else hs_bI (hc_M_has d (μ1.1 κ1 0 16) x4 μ1) (fun r2 μ2 => (if r2 = 0 then he_M_goes_48 d κ1 x2 x3 x4 μ2 else (if x4 = (μ2.1 κ1 0 17) then he_M_goes_48 d κ1 x2 x3 x4 μ2 else (if x3 < 0 then he_M_goes_78 d κ1 x2 x4 μ2 else (if hs_in x4 117 then hs_bI (hc_M_shows d (μ2.1 κ1 0 (x4.toNatClampNeg)) μ2) (fun r3 μ3 => (if hs_in x3 117 then hs_bI (hc_M_shows d (μ3.1 κ1 0 (x3.toNatClampNeg)) μ3) (fun r4 μ4 => (if r4 < r3 then he_M_goes_78 d κ1 x2 x4 μ4 else he_M_goes_83 d κ1 x2 x3 x4 μ4)) else none)) else none))))))) else (if x3 < 0 then he_M_goes_146 d κ1 μ else (if (μ.1 κ1 0 17) < 0 then he_M_goes_122 d κ1 x3 μ else (if hs_in x3 117 then hs_bI (hc_M_shows d (μ.1 κ1 0 (x3.toNatClampNeg)) μ) (fun r5 μ5 => (if hs_in (μ5.1 κ1 0 17) 117 then hs_bI (hc_M_shows d (μ5.1 κ1 0 ((μ5.1 κ1 0 17).toNatClampNeg)) μ5) (fun r6 μ6 => (if r6 < r5 then he_M_goes_122 d κ1 x3 μ6 else he_M_goes_146 d κ1 μ6)) else none)) else none)))) := by rcases hκ1 with rfl | rfl | rfl <;> exact (hs_ev_go hp_M_goes [5, 48, 78, 83, 122, 146, 174, 193, 266] 173 5 _ [] μ).trans rfl
set_option maxRecDepth 100000 in
theorem hq_M_goes_48 (d : Nat) (κ1 : Nat) (x2 : Int32) (x3 : Int32) (x4 : Int32) (μ : hs_M) (hκ1 : κ1 = 45 ∨ κ1 = 46 ∨ κ1 = 65) : he_M_goes_48 d κ1 x2 x3 x4 μ =
  he_M_goes_83 d κ1 x2 x3 x4 μ := by rcases hκ1 with rfl | rfl | rfl <;> exact (hs_ev_go hp_M_goes [5, 48, 78, 83, 122, 146, 174, 193, 266] 173 48 _ [] μ).trans rfl
set_option maxRecDepth 100000 in
theorem hq_M_goes_78 (d : Nat) (κ1 : Nat) (x2 : Int32) (x4 : Int32) (μ : hs_M) (hκ1 : κ1 = 45 ∨ κ1 = 46 ∨ κ1 = 65) : he_M_goes_78 d κ1 x2 x4 μ =
  he_M_goes_5 d κ1 x2 x4 (x4 + (1 : Int32)) μ := by rcases hκ1 with rfl | rfl | rfl <;> exact (hs_ev_go hp_M_goes [5, 48, 78, 83, 122, 146, 174, 193, 266] 173 78 _ [] μ).trans rfl
set_option maxRecDepth 100000 in
theorem hq_M_goes_83 (d : Nat) (κ1 : Nat) (x2 : Int32) (x3 : Int32) (x4 : Int32) (μ : hs_M) (hκ1 : κ1 = 45 ∨ κ1 = 46 ∨ κ1 = 65) : he_M_goes_83 d κ1 x2 x3 x4 μ =
  he_M_goes_5 d κ1 x2 x3 (x4 + (1 : Int32)) μ := by rcases hκ1 with rfl | rfl | rfl <;> exact (hs_ev_go hp_M_goes [5, 48, 78, 83, 122, 146, 174, 193, 266] 173 83 _ [] μ).trans rfl
set_option maxRecDepth 100000 in
theorem hq_M_goes_122 (d : Nat) (κ1 : Nat) (x3 : Int32) (μ : hs_M) (hκ1 : κ1 = 45 ∨ κ1 = 46 ∨ κ1 = 65) : he_M_goes_122 d κ1 x3 μ =
  hs_bI (hc_M_falls d κ1 μ) (fun r1 μ1 => he_M_goes_146 d κ1 (hs_wI (hs_wI (hs_wI μ1 12 0 27 ((μ.1 12 0 27) + r1)) κ1 0 17 x3) κ1 0 18 (0 : Int32))) := by rcases hκ1 with rfl | rfl | rfl <;> exact (hs_ev_go hp_M_goes [5, 48, 78, 83, 122, 146, 174, 193, 266] 173 122 _ [] μ).trans rfl
set_option maxRecDepth 100000 in
theorem hq_M_goes_146 (d : Nat) (κ1 : Nat) (μ : hs_M) (hκ1 : κ1 = 45 ∨ κ1 = 46 ∨ κ1 = 65) : he_M_goes_146 d κ1 μ =
  (if (μ.1 κ1 0 17) < 0 then he_M_goes_174 d κ1 μ else (if hs_in ((8 : Int32) + (μ.1 κ1 0 17)) 117 then (if hs_in ((8 : Int32) + (μ.1 κ1 0 17)) 117 then he_M_goes_174 d κ1 (hs_wI (hs_wI μ κ1 0 (((8 : Int32) + (μ.1 κ1 0 17)).toNatClampNeg) ((μ.1 κ1 0 (((8 : Int32) + (μ.1 κ1 0 17)).toNatClampNeg)) + (1 : Int32))) κ1 0 18 (((hs_wI μ κ1 0 (((8 : Int32) + (μ.1 κ1 0 17)).toNatClampNeg) ((μ.1 κ1 0 (((8 : Int32) + (μ.1 κ1 0 17)).toNatClampNeg)) + (1 : Int32))).1 κ1 0 18) + (1 : Int32))) else none) else none)) := by rcases hκ1 with rfl | rfl | rfl <;> exact (hs_ev_go hp_M_goes [5, 48, 78, 83, 122, 146, 174, 193, 266] 173 146 _ [] μ).trans rfl
set_option maxRecDepth 100000 in
theorem hq_M_goes_174 (d : Nat) (κ1 : Nat) (μ : hs_M) (hκ1 : κ1 = 45 ∨ κ1 = 46 ∨ κ1 = 65) : he_M_goes_174 d κ1 μ =
  (if hs_in ((57 : Int32) + ((μ.1 κ1 0 19) - (μ.1 κ1 0 19) / (60 : Int32) * (60 : Int32))) 117 then he_M_goes_193 d κ1 (0 : Int32) (hs_wI μ κ1 0 (((57 : Int32) + ((μ.1 κ1 0 19) - (μ.1 κ1 0 19) / (60 : Int32) * (60 : Int32))).toNatClampNeg) (μ.1 κ1 0 17)) else none) := by rcases hκ1 with rfl | rfl | rfl <;> exact (hs_ev_go hp_M_goes [5, 48, 78, 83, 122, 146, 174, 193, 266] 173 174 _ [] μ).trans rfl
set_option maxRecDepth 100000 in
theorem hq_M_goes_193 (d : Nat) (κ1 : Nat) (x4 : Int32) (μ : hs_M) (hκ1 : κ1 = 45 ∨ κ1 = 46 ∨ κ1 = 65) : he_M_goes_193 d κ1 x4 μ =
  (if x4 < (μ.1 12 0 3) then hs_bI (hc_M_has d (μ.1 κ1 0 16) x4 μ) (fun r1 μ1 => (if r1 = 0 then he_M_goes_266 d κ1 x4 μ1 else (if hs_in x4 8 then (if 0 < (μ1.1 44 0 (x4.toNatClampNeg)) then (if hs_in x4 117 then (if hs_in x4 8 then (if (μ1.1 44 0 (x4.toNatClampNeg)) = 0 then none else (if hs_in (((6 : Int32) * x4) + ((μ1.1 κ1 0 19) - (μ1.1 κ1 0 19) / (μ1.1 44 0 (x4.toNatClampNeg)) * (μ1.1 44 0 (x4.toNatClampNeg)))) 48 then hs_bI (hc_Math_min d (999 : Int32) ((μ1.1 κ1 0 (x4.toNatClampNeg)) + (μ1.1 43 0 ((((6 : Int32) * x4) + ((μ1.1 κ1 0 19) - (μ1.1 κ1 0 19) / (μ1.1 44 0 (x4.toNatClampNeg)) * (μ1.1 44 0 (x4.toNatClampNeg)))).toNatClampNeg))) μ1) (fun r2 μ2 => hs_bI (hc_Math_max d (1 : Int32) r2 μ2) (fun r3 μ3 => (if hs_in x4 117 then he_M_goes_266 d κ1 x4 (hs_wI μ3 κ1 0 (x4.toNatClampNeg) r3) else none))) else none)) else none) else none) else he_M_goes_266 d κ1 x4 μ1) else none))) else some (none, (hs_wI μ κ1 0 19 ((μ.1 κ1 0 19) + (1 : Int32))))) := by rcases hκ1 with rfl | rfl | rfl <;> exact (hs_ev_go hp_M_goes [5, 48, 78, 83, 122, 146, 174, 193, 266] 173 193 _ [] μ).trans rfl
set_option maxRecDepth 100000 in
theorem hq_M_goes_266 (d : Nat) (κ1 : Nat) (x4 : Int32) (μ : hs_M) (hκ1 : κ1 = 45 ∨ κ1 = 46 ∨ κ1 = 65) : he_M_goes_266 d κ1 x4 μ =
  he_M_goes_193 d κ1 (x4 + (1 : Int32)) μ := by rcases hκ1 with rfl | rfl | rfl <;> exact (hs_ev_go hp_M_goes [5, 48, 78, 83, 122, 146, 174, 193, 266] 173 266 _ [] μ).trans rfl
noncomputable def he_M_falls_4 (d : Nat) (κ1 : Nat) (x2 : Int32) (x3 : Int32) (μ : hs_M) : Option (Option hs_V × hs_M) := hs_ev d 206 4 [none, some (vR κ1 0), some (vI x2), some (vI x3)] [] μ
noncomputable def he_M_falls_54 (d : Nat) (κ1 : Nat) (x2 : Int32) (x3 : Int32) (μ : hs_M) : Option (Option hs_V × hs_M) := hs_ev d 206 54 [none, some (vR κ1 0), some (vI x2), some (vI x3)] [] μ
theorem hp_M_falls : hs_prog 206 = (hs_k206, 4, 1) := rfl
set_option maxRecDepth 100000 in
theorem hq_M_falls (d : Nat) (κ1 : Nat) (μ : hs_M) (hκ1 : κ1 = 45 ∨ κ1 = 46 ∨ κ1 = 65) : hc_M_falls (d + 1) κ1 μ =
  he_M_falls_4 d κ1 (0 : Int32) (0 : Int32) μ := by rcases hκ1 with rfl | rfl | rfl <;> exact (hs_ev_go hp_M_falls [4, 54] 44 0 _ [] μ).trans rfl
set_option maxRecDepth 100000 in
theorem hq_M_falls_4 (d : Nat) (κ1 : Nat) (x2 : Int32) (x3 : Int32) (μ : hs_M) (hκ1 : κ1 = 45 ∨ κ1 = 46 ∨ κ1 = 65) : he_M_falls_4 d κ1 x2 x3 μ =
  (if x3 < (μ.1 κ1 0 20) then (if (μ.1 κ1 0 17) < 0 then he_M_falls_54 d κ1 x2 x3 μ else (if hs_in ((21 : Int32) + x3) 117 then (if (μ.1 κ1 0 (((21 : Int32) + x3).toNatClampNeg)) = (μ.1 κ1 0 17) then (if hs_in ((45 : Int32) + x3) 117 then (if (μ.1 κ1 0 (((45 : Int32) + x3).toNatClampNeg)) < 0 then (if hs_in ((45 : Int32) + x3) 117 then he_M_falls_54 d κ1 (x2 + (1 : Int32)) x3 (hs_wI μ κ1 0 (((45 : Int32) + x3).toNatClampNeg) (μ.1 κ1 0 19)) else none) else he_M_falls_54 d κ1 x2 x3 μ) else none) else he_M_falls_54 d κ1 x2 x3 μ) else none)) else some (some (vI x2), μ)) := by rcases hκ1 with rfl | rfl | rfl <;> exact (hs_ev_go hp_M_falls [4, 54] 44 4 _ [] μ).trans rfl
set_option maxRecDepth 100000 in
theorem hq_M_falls_54 (d : Nat) (κ1 : Nat) (x2 : Int32) (x3 : Int32) (μ : hs_M) (hκ1 : κ1 = 45 ∨ κ1 = 46 ∨ κ1 = 65) : he_M_falls_54 d κ1 x2 x3 μ =
  he_M_falls_4 d κ1 x2 (x3 + (1 : Int32)) μ := by rcases hκ1 with rfl | rfl | rfl <;> exact (hs_ev_go hp_M_falls [4, 54] 44 54 _ [] μ).trans rfl
noncomputable def he_M_puts_2 (d : Nat) (κ1 : Nat) (x2 : Int32) (μ : hs_M) : Option (Option hs_V × hs_M) := hs_ev d 207 2 [some (vR 45 0), some (vR κ1 0), some (vI x2)] [] μ
theorem hp_M_puts : hs_prog 207 = (hs_k207, 3, 0) := rfl
set_option maxRecDepth 100000 in
theorem hq_M_puts (d : Nat) (κ1 : Nat) (μ : hs_M) (hκ1 : κ1 = 46 ∨ κ1 = 65) : hc_M_puts (d + 1) κ1 μ =
  he_M_puts_2 d κ1 (0 : Int32) μ := by rcases hκ1 with rfl | rfl <;> exact (hs_ev_go hp_M_puts [2] 17 0 _ [] μ).trans rfl
set_option maxRecDepth 100000 in
theorem hq_M_puts_2 (d : Nat) (κ1 : Nat) (x2 : Int32) (μ : hs_M) (hκ1 : κ1 = 46 ∨ κ1 = 65) : he_M_puts_2 d κ1 x2 μ =
  (if x2 < (117 : Int32) then (if hs_in x2 117 then (if hs_in x2 117 then he_M_puts_2 d κ1 (x2 + (1 : Int32)) (hs_wI μ κ1 0 (x2.toNatClampNeg) (μ.1 45 0 (x2.toNatClampNeg))) else none) else none) else some (none, μ)) := by rcases hκ1 with rfl | rfl <;> exact (hs_ev_go hp_M_puts [2] 17 2 _ [] μ).trans rfl
noncomputable def he_M_putsBy_11 (d : Nat) (x1 : Int32) (μ : hs_M) : Option (Option hs_V × hs_M) := hs_ev d 208 11 [some (vR 12 0), some (vI x1)] [] μ
noncomputable def he_M_putsBy_51 (d : Nat) (x1 : Int32) (μ : hs_M) : Option (Option hs_V × hs_M) := hs_ev d 208 51 [some (vR 12 0), some (vI x1)] [] μ
theorem hp_M_putsBy : hs_prog 208 = (hs_k208, 2, 0) := rfl
set_option maxRecDepth 100000 in
theorem hq_M_putsBy (d : Nat)  (μ : hs_M)  : hc_M_putsBy (d + 1)  μ =
  (if (μ.1 12 0 28) = (20 : Int32) then he_M_putsBy_11 d (0 : Int32) μ else he_M_putsBy_51 d (0 : Int32) μ) := by exact (hs_ev_go hp_M_putsBy [11, 51] 57 0 _ [] μ).trans rfl
set_option maxRecDepth 100000 in
theorem hq_M_putsBy_11 (d : Nat) (x1 : Int32) (μ : hs_M)  : he_M_putsBy_11 d x1 μ =
  (if x1 < (2223 : Int32) then (if hs_in (x1 + (117 : Int32)) 2340 then (if hs_in x1 2340 then he_M_putsBy_11 d (x1 + (1 : Int32)) (hs_wI μ 55 0 (x1.toNatClampNeg) (μ.1 55 0 ((x1 + (117 : Int32)).toNatClampNeg))) else none) else none) else he_M_putsBy_51 d (0 : Int32) (hs_wI μ 12 0 28 ((μ.1 12 0 28) - (1 : Int32)))) := by exact (hs_ev_go hp_M_putsBy [11, 51] 57 11 _ [] μ).trans rfl
set_option maxRecDepth 100000 in
theorem hq_M_putsBy_51 (d : Nat) (x1 : Int32) (μ : hs_M)  : he_M_putsBy_51 d x1 μ =
  (if x1 < (117 : Int32) then (if hs_in x1 117 then (if hs_in (((117 : Int32) * (μ.1 12 0 28)) + x1) 2340 then he_M_putsBy_51 d (x1 + (1 : Int32)) (hs_wI μ 55 0 ((((117 : Int32) * (μ.1 12 0 28)) + x1).toNatClampNeg) (μ.1 45 0 (x1.toNatClampNeg))) else none) else none) else some (none, (hs_wI μ 12 0 28 ((μ.1 12 0 28) + (1 : Int32))))) := by exact (hs_ev_go hp_M_putsBy [11, 51] 57 51 _ [] μ).trans rfl
noncomputable def he_M_undo_26 (d : Nat) (x1 : Int32) (μ : hs_M) : Option (Option hs_V × hs_M) := hs_ev d 209 26 [some (vR 12 0), some (vI x1)] [] μ
theorem hp_M_undo : hs_prog 209 = (hs_k209, 2, 1) := rfl
set_option maxRecDepth 100000 in
theorem hq_M_undo (d : Nat)  (μ : hs_M)  : hc_M_undo (d + 1)  μ =
  (if (μ.1 12 0 28) = 0 then some (some (vI (-1 : Int32)), (hs_wI μ 12 0 0 (0 : Int32))) else he_M_undo_26 d (0 : Int32) (hs_wI (hs_wI μ 12 0 0 (0 : Int32)) 12 0 28 ((μ.1 12 0 28) - (1 : Int32)))) := by exact (hs_ev_go hp_M_undo [26] 40 0 _ [] μ).trans rfl
set_option maxRecDepth 100000 in
theorem hq_M_undo_26 (d : Nat) (x1 : Int32) (μ : hs_M)  : he_M_undo_26 d x1 μ =
  (if x1 < (117 : Int32) then (if hs_in (((117 : Int32) * (μ.1 12 0 28)) + x1) 2340 then (if hs_in x1 117 then he_M_undo_26 d (x1 + (1 : Int32)) (hs_wI μ 45 0 (x1.toNatClampNeg) (μ.1 55 0 ((((117 : Int32) * (μ.1 12 0 28)) + x1).toNatClampNeg))) else none) else none) else some (some (vI (μ.1 12 0 28)), μ)) := by exact (hs_ev_go hp_M_undo [26] 40 26 _ [] μ).trans rfl
theorem hp_M_stand : hs_prog 210 = (hs_k210, 3, 1) := rfl
set_option maxRecDepth 100000 in
theorem hq_M_stand (d : Nat) (x1 : Int32) (μ : hs_M)  : hc_M_stand (d + 1) x1 μ =
  hs_bI (hc_M_in d (x1.toInt64) (0 : Int64) ((((1 : Int32) <<< ((μ.1 12 0 3) &&& 31)) - (1 : Int32)).toInt64) (hs_wI μ 12 0 0 (0 : Int32))) (fun r1 μ1 => (if r1 = 0 then some (some (vI (-2 : Int32)), μ1) else hs_bV (hc_M_putsBy d μ1) (fun μ2 => hs_bV (hc_M_goes d 45 x1 (hs_wI μ2 12 0 27 (0 : Int32))) (fun μ3 => (if (μ3.1 45 0 17) = (μ2.1 45 0 17) then hs_bI (hc_M_flag d (0 : Int32) (hs_wI μ3 12 0 1 (0 : Int32))) (fun r4 μ4 => hs_bV (hc_M_enters d (r4.toInt64) μ4) (fun μ5 => hs_bV (hc_M_enters d ((μ5.1 12 0 27).toInt64) μ5) (fun μ6 => some (some (vI (μ6.1 45 0 17)), μ6)))) else hs_bI (hc_M_flag d (1 : Int32) (hs_wI μ3 12 0 1 (0 : Int32))) (fun r7 μ7 => hs_bV (hc_M_enters d (r7.toInt64) μ7) (fun μ8 => hs_bV (hc_M_enters d ((μ8.1 12 0 27).toInt64) μ8) (fun μ9 => some (some (vI (μ9.1 45 0 17)), μ9))))))))) := by exact (hs_ev_go hp_M_stand [] 61 0 _ [] μ).trans rfl
noncomputable def he_M_weeks_27 (d : Nat) (x1 : Int32) (μ : hs_M) : Option (Option hs_V × hs_M) := hs_ev d 211 27 [some (vR 12 0), some (vI x1), none, none, none] [] μ
noncomputable def he_M_weeks_36 (d : Nat) (x1 : Int32) (x2 : Int32) (x3 : Int32) (μ : hs_M) : Option (Option hs_V × hs_M) := hs_ev d 211 36 [some (vR 12 0), some (vI x1), some (vI x2), some (vI x3), none] [] μ
theorem hp_M_weeks : hs_prog 211 = (hs_k211, 5, 1) := rfl
set_option maxRecDepth 100000 in
theorem hq_M_weeks (d : Nat) (x1 : Int32) (μ : hs_M)  : hc_M_weeks (d + 1) x1 μ =
  hs_bI (hc_M_in d (x1.toInt64) (0 : Int64) (99 : Int64) (hs_wI μ 12 0 0 (0 : Int32))) (fun r1 μ1 => (if r1 = 0 then some (some (vI (-1 : Int32)), μ1) else (if 0 < x1 then hs_bV (hc_M_putsBy d μ1) (fun μ2 => he_M_weeks_27 d x1 μ2) else he_M_weeks_27 d x1 μ1))) := by exact (hs_ev_go hp_M_weeks [27, 36] 73 0 _ [] μ).trans rfl
set_option maxRecDepth 100000 in
theorem hq_M_weeks_27 (d : Nat) (x1 : Int32) (μ : hs_M)  : he_M_weeks_27 d x1 μ =
  he_M_weeks_36 d x1 (0 : Int32) (0 : Int32) (hs_wI μ 12 0 27 (0 : Int32)) := by exact (hs_ev_go hp_M_weeks [27, 36] 73 27 _ [] μ).trans rfl
set_option maxRecDepth 100000 in
theorem hq_M_weeks_36 (d : Nat) (x1 : Int32) (x2 : Int32) (x3 : Int32) (μ : hs_M)  : he_M_weeks_36 d x1 x2 x3 μ =
  (if x3 < x1 then hs_bI (hc_M_willing d 45 μ) (fun r1 μ1 => hs_bV (hc_M_goes d 45 r1 μ1) (fun μ2 => (if (μ2.1 45 0 17) = (μ.1 45 0 17) then hs_bI (hc_M_flag d (0 : Int32) μ2) (fun r3 μ3 => he_M_weeks_36 d x1 (x2 + r3) (x3 + (1 : Int32)) μ3) else hs_bI (hc_M_flag d (1 : Int32) μ2) (fun r4 μ4 => he_M_weeks_36 d x1 (x2 + r4) (x3 + (1 : Int32)) μ4)))) else hs_bV (hc_M_enters d ((μ.1 45 0 17).toInt64) (hs_wI μ 12 0 1 (0 : Int32))) (fun μ5 => hs_bV (hc_M_enters d ((μ5.1 12 0 27).toInt64) μ5) (fun μ6 => some (some (vI x2), μ6)))) := by exact (hs_ev_go hp_M_weeks [27, 36] 73 36 _ [] μ).trans rfl
noncomputable def he_M_readsWeek_4 (d : Nat) (x1 : Int32) (x2 : Int32) (μ : hs_M) : Option (Option hs_V × hs_M) := hs_ev d 212 4 [some (vR 12 0), some (vI x1), some (vI x2)] [] μ
noncomputable def he_M_readsWeek_73 (d : Nat) (x2 : Int32) (μ : hs_M) : Option (Option hs_V × hs_M) := hs_ev d 212 73 [some (vR 12 0), none, some (vI x2)] [] μ
theorem hp_M_readsWeek : hs_prog 212 = (hs_k212, 3, 0) := rfl
set_option maxRecDepth 100000 in
theorem hq_M_readsWeek (d : Nat)  (μ : hs_M)  : hc_M_readsWeek (d + 1)  μ =
  he_M_readsWeek_4 d (-1 : Int32) (0 : Int32) μ := by exact (hs_ev_go hp_M_readsWeek [4, 73] 61 0 _ [] μ).trans rfl
set_option maxRecDepth 100000 in
theorem hq_M_readsWeek_4 (d : Nat) (x1 : Int32) (x2 : Int32) (μ : hs_M)  : he_M_readsWeek_4 d x1 x2 μ =
  (if (μ.1 12 0 14) < (μ.1 12 0 15) then (if hs_in (μ.1 12 0 14) 80 then hs_bI (hc_M_in d (((μ.1 47 0 ((μ.1 12 0 14).toNatClampNeg)) - (97 : Int32)).toInt64) ((x1 + (1 : Int32)).toInt64) (7 : Int64) μ) (fun r1 μ1 => (if r1 = 0 then he_M_readsWeek_73 d x2 μ1 else (if hs_in (μ1.1 12 0 14) 80 then he_M_readsWeek_4 d ((μ1.1 47 0 ((μ1.1 12 0 14).toNatClampNeg)) - (97 : Int32)) (x2 ||| ((1 : Int32) <<< (((μ1.1 47 0 ((μ1.1 12 0 14).toNatClampNeg)) - (97 : Int32)) &&& 31))) (hs_wI μ1 12 0 14 ((μ1.1 12 0 14) + (1 : Int32))) else none))) else none) else he_M_readsWeek_73 d x2 μ) := by exact (hs_ev_go hp_M_readsWeek [4, 73] 61 4 _ [] μ).trans rfl
set_option maxRecDepth 100000 in
theorem hq_M_readsWeek_73 (d : Nat) (x2 : Int32) (μ : hs_M)  : he_M_readsWeek_73 d x2 μ =
  (if hs_in (μ.1 12 0 31) 61 then some (none, (hs_wI (hs_wI μ 56 0 ((μ.1 12 0 31).toNatClampNeg) x2) 12 0 31 ((μ.1 12 0 31) + (1 : Int32)))) else none) := by exact (hs_ev_go hp_M_readsWeek [4, 73] 61 73 _ [] μ).trans rfl
noncomputable def he_M_year_27 (d : Nat) (x1 : Int32) (x2 : Int32) (μ : hs_M) : Option (Option hs_V × hs_M) := hs_ev d 213 27 [some (vR 12 0), some (vI x1), some (vI x2), none, none] [] μ
noncomputable def he_M_year_68 (d : Nat) (x4 : Int32) (μ : hs_M) : Option (Option hs_V × hs_M) := hs_ev d 213 68 [some (vR 12 0), none, none, none, some (vI x4)] [] μ
noncomputable def he_M_year_102 (d : Nat) (x4 : Int32) (μ : hs_M) : Option (Option hs_V × hs_M) := hs_ev d 213 102 [some (vR 12 0), none, none, none, some (vI x4)] [] μ
noncomputable def he_M_year_123 (d : Nat) (x4 : Int32) (μ : hs_M) : Option (Option hs_V × hs_M) := hs_ev d 213 123 [some (vR 12 0), none, none, none, some (vI x4)] [] μ
theorem hp_M_year : hs_prog 213 = (hs_k213, 5, 1) := rfl
set_option maxRecDepth 100000 in
theorem hq_M_year (d : Nat)  (μ : hs_M)  : hc_M_year (d + 1)  μ =
  hs_bI (hc_M_begins d (60 : Int32) (hs_wI μ 12 0 0 (0 : Int32))) (fun r1 μ1 => (if 0 < r1 then he_M_year_27 d r1 (1 : Int32) (hs_wI μ1 12 0 31 (0 : Int32)) else he_M_year_27 d r1 (0 : Int32) (hs_wI μ1 12 0 31 (0 : Int32)))) := by exact (hs_ev_go hp_M_year [27, 68, 102, 123] 93 0 _ [] μ).trans rfl
set_option maxRecDepth 100000 in
theorem hq_M_year_27 (d : Nat) (x1 : Int32) (x2 : Int32) (μ : hs_M)  : he_M_year_27 d x1 x2 μ =
  (if x2 = 0 then hs_bI (hc_M_faultOf d x1 (60 : Int32) (1 : Int32) μ) (fun r1 μ1 => (if r1 < 0 then some (some (vI r1), μ1) else he_M_year_68 d (0 : Int32) (hs_wI μ1 12 0 27 (0 : Int32)))) else hs_bV (hc_M_readsWeek d μ) (fun μ2 => hs_bI (hc_M_takes d (59 : Int32) μ2) (fun r3 μ3 => he_M_year_27 d x1 r3 μ3))) := by exact (hs_ev_go hp_M_year [27, 68, 102, 123] 93 27 _ [] μ).trans rfl
set_option maxRecDepth 100000 in
theorem hq_M_year_68 (d : Nat) (x4 : Int32) (μ : hs_M)  : he_M_year_68 d x4 μ =
  (if x4 < (μ.1 12 0 31) then (if hs_in x4 61 then (if (μ.1 56 0 (x4.toNatClampNeg)) < ((1 : Int32) <<< ((μ.1 12 0 3) &&& 31)) then (if x4 = 0 then hs_bV (hc_M_putsBy d μ) (fun μ1 => he_M_year_102 d x4 μ1) else he_M_year_102 d x4 μ) else he_M_year_123 d x4 μ) else none) else he_M_year_123 d x4 μ) := by exact (hs_ev_go hp_M_year [27, 68, 102, 123] 93 68 _ [] μ).trans rfl
set_option maxRecDepth 100000 in
theorem hq_M_year_102 (d : Nat) (x4 : Int32) (μ : hs_M)  : he_M_year_102 d x4 μ =
  (if hs_in x4 61 then hs_bV (hc_M_goes d 45 (μ.1 56 0 (x4.toNatClampNeg)) μ) (fun μ1 => he_M_year_68 d (x4 + (1 : Int32)) μ1) else none) := by exact (hs_ev_go hp_M_year [27, 68, 102, 123] 93 102 _ [] μ).trans rfl
set_option maxRecDepth 100000 in
theorem hq_M_year_123 (d : Nat) (x4 : Int32) (μ : hs_M)  : he_M_year_123 d x4 μ =
  hs_bV (hc_M_enters d ((μ.1 45 0 17).toInt64) (hs_wI μ 12 0 1 (0 : Int32))) (fun μ1 => (if x4 < (μ1.1 12 0 31) then hs_bI (hc_M_flag d (1 : Int32) μ1) (fun r2 μ2 => hs_bV (hc_M_enters d (r2.toInt64) μ2) (fun μ3 => some (some (vI x4), μ3))) else hs_bI (hc_M_flag d (0 : Int32) μ1) (fun r4 μ4 => hs_bV (hc_M_enters d (r4.toInt64) μ4) (fun μ5 => some (some (vI x4), μ5))))) := by exact (hs_ev_go hp_M_year [27, 68, 102, 123] 93 123 _ [] μ).trans rfl
theorem hp_M_law : hs_prog 214 = (hs_k214, 2, 1) := rfl
set_option maxRecDepth 100000 in
theorem hq_M_law (d : Nat)  (μ : hs_M)  : hc_M_law (d + 1)  μ =
  (if (μ.1 45 0 17) < 0 then some (some (vI (-2 : Int32)), (hs_wI μ 12 0 0 (0 : Int32))) else (if (μ.1 45 0 20) = (12 : Int32) then some (some (vI (-3 : Int32)), (hs_wI μ 12 0 0 (0 : Int32))) else hs_bV (hc_M_putsBy d (hs_wI μ 12 0 0 (0 : Int32))) (fun μ1 => (if hs_in ((21 : Int32) + (μ1.1 45 0 20)) 117 then (if hs_in ((33 : Int32) + (μ1.1 45 0 20)) 117 then (if hs_in ((45 : Int32) + (μ1.1 45 0 20)) 117 then some (some (vI (μ1.1 45 0 20)), (hs_wI (hs_wI (hs_wI (hs_wI μ1 45 0 (((21 : Int32) + (μ1.1 45 0 20)).toNatClampNeg) (μ1.1 45 0 17)) 45 0 (((33 : Int32) + (μ1.1 45 0 20)).toNatClampNeg) ((hs_wI μ1 45 0 (((21 : Int32) + (μ1.1 45 0 20)).toNatClampNeg) (μ1.1 45 0 17)).1 45 0 19)) 45 0 (((45 : Int32) + (μ1.1 45 0 20)).toNatClampNeg) (-1 : Int32)) 45 0 20 (((hs_wI (hs_wI (hs_wI μ1 45 0 (((21 : Int32) + (μ1.1 45 0 20)).toNatClampNeg) (μ1.1 45 0 17)) 45 0 (((33 : Int32) + (μ1.1 45 0 20)).toNatClampNeg) ((hs_wI μ1 45 0 (((21 : Int32) + (μ1.1 45 0 20)).toNatClampNeg) (μ1.1 45 0 17)).1 45 0 19)) 45 0 (((45 : Int32) + (μ1.1 45 0 20)).toNatClampNeg) (-1 : Int32)).1 45 0 20) + (1 : Int32)))) else none) else none) else none)))) := by exact (hs_ev_go hp_M_law [] 65 0 _ [] μ).trans rfl
noncomputable def he_M_laws_36 (d : Nat)  (μ : hs_M) : Option (Option hs_V × hs_M) := hs_ev d 215 36 [some (vR 12 0), none, none] [] μ
theorem hp_M_laws : hs_prog 215 = (hs_k215, 3, 1) := rfl
set_option maxRecDepth 100000 in
theorem hq_M_laws (d : Nat) (x1 : Int32) (x2 : Int32) (μ : hs_M)  : hc_M_laws (d + 1) x1 x2 μ =
  hs_bI (hc_M_in d (x1.toInt64) (0 : Int64) (((μ.1 45 0 20) - (1 : Int32)).toInt64) (hs_wI μ 12 0 0 (0 : Int32))) (fun r1 μ1 => (if r1 = 0 then he_M_laws_36 d μ1 else hs_bI (hc_M_in d (x2.toInt64) (0 : Int64) (3 : Int64) μ1) (fun r2 μ2 => (if r2 = 0 then he_M_laws_36 d μ2 else (if x2 = (0 : Int32) then (if hs_in ((21 : Int32) + x1) 117 then some (some (vI (μ2.1 45 0 (((21 : Int32) + x1).toNatClampNeg))), μ2) else none) else (if x2 = (1 : Int32) then (if hs_in ((33 : Int32) + x1) 117 then some (some (vI (μ2.1 45 0 (((33 : Int32) + x1).toNatClampNeg))), μ2) else none) else (if x2 = (2 : Int32) then (if hs_in ((45 : Int32) + x1) 117 then (if (μ2.1 45 0 (((45 : Int32) + x1).toNatClampNeg)) < 0 then hs_bI (hc_M_flag d (1 : Int32) μ2) (fun r3 μ3 => some (some (vI r3), μ3)) else hs_bI (hc_M_flag d (0 : Int32) μ2) (fun r4 μ4 => some (some (vI r4), μ4))) else none) else (if hs_in ((45 : Int32) + x1) 117 then some (some (vI (μ2.1 45 0 (((45 : Int32) + x1).toNatClampNeg))), μ2) else none)))))))) := by exact (hs_ev_go hp_M_laws [36] 62 0 _ [] μ).trans rfl
set_option maxRecDepth 100000 in
theorem hq_M_laws_36 (d : Nat)  (μ : hs_M)  : he_M_laws_36 d  μ =
  hs_bI (hc_M_refuse d μ) (fun r1 μ1 => some (some (vI r1), μ1)) := by exact (hs_ev_go hp_M_laws [36] 62 36 _ [] μ).trans rfl
