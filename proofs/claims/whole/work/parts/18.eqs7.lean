/-! ===== the equations of the methods, 7 ===== -/
theorem hp_M_eats : hs_prog 216 = (hs_k216, 3, 1) := rfl
set_option maxRecDepth 100000 in
theorem hq_M_eats (d : Nat) (x1 : Int32) (x2 : Int32) (μ : hs_M)  : hc_M_eats (d + 1) x1 x2 μ =
  hs_bV (hc_M_putsBy d μ) (fun μ1 => (if hs_in x1 117 then hs_bI (hc_Math_min d (999 : Int32) ((μ1.1 45 0 (x1.toNatClampNeg)) + x2) μ1) (fun r2 μ2 => hs_bI (hc_Math_max d (1 : Int32) r2 μ2) (fun r3 μ3 => (if hs_in x1 117 then (if hs_in x1 117 then some (some (vI ((hs_wI μ3 45 0 (x1.toNatClampNeg) r3).1 45 0 (x1.toNatClampNeg))), (hs_wI μ3 45 0 (x1.toNatClampNeg) r3)) else none) else none))) else none)) := by exact (hs_ev_go hp_M_eats [] 24 0 _ [] μ).trans rfl
noncomputable def he_M_feed_34 (d : Nat)  (μ : hs_M) : Option (Option hs_V × hs_M) := hs_ev d 217 34 [none, none, none] [] μ
theorem hp_M_feed : hs_prog 217 = (hs_k217, 3, 1) := rfl
set_option maxRecDepth 100000 in
theorem hq_M_feed (d : Nat) (x1 : Int32) (x2 : Int32) (μ : hs_M)  : hc_M_feed (d + 1) x1 x2 μ =
  hs_bI (hc_M_isAlive d x1 (hs_wI μ 12 0 0 (0 : Int32))) (fun r1 μ1 => (if r1 = 0 then he_M_feed_34 d μ1 else hs_bI (hc_M_in d (x2.toInt64) (1 : Int64) (99 : Int64) μ1) (fun r2 μ2 => (if r2 = 0 then he_M_feed_34 d μ2 else hs_bI (hc_M_eats d x1 x2 μ2) (fun r3 μ3 => some (some (vI r3), μ3)))))) := by exact (hs_ev_go hp_M_feed [34] 23 0 _ [] μ).trans rfl
set_option maxRecDepth 100000 in
theorem hq_M_feed_34 (d : Nat)  (μ : hs_M)  : he_M_feed_34 d  μ =
  some (some (vI (-1 : Int32)), μ) := by exact (hs_ev_go hp_M_feed [34] 23 34 _ [] μ).trans rfl
noncomputable def he_M_fast_35 (d : Nat)  (μ : hs_M) : Option (Option hs_V × hs_M) := hs_ev d 218 35 [none, none, none] [] μ
theorem hp_M_fast : hs_prog 218 = (hs_k218, 3, 1) := rfl
set_option maxRecDepth 100000 in
theorem hq_M_fast (d : Nat) (x1 : Int32) (x2 : Int32) (μ : hs_M)  : hc_M_fast (d + 1) x1 x2 μ =
  hs_bI (hc_M_isAlive d x1 (hs_wI μ 12 0 0 (0 : Int32))) (fun r1 μ1 => (if r1 = 0 then he_M_fast_35 d μ1 else hs_bI (hc_M_in d (x2.toInt64) (1 : Int64) (99 : Int64) μ1) (fun r2 μ2 => (if r2 = 0 then he_M_fast_35 d μ2 else hs_bI (hc_M_eats d x1 (-x2) μ2) (fun r3 μ3 => some (some (vI r3), μ3)))))) := by exact (hs_ev_go hp_M_fast [35] 24 0 _ [] μ).trans rfl
set_option maxRecDepth 100000 in
theorem hq_M_fast_35 (d : Nat)  (μ : hs_M)  : he_M_fast_35 d  μ =
  some (some (vI (-1 : Int32)), μ) := by exact (hs_ev_go hp_M_fast [35] 24 35 _ [] μ).trans rfl
theorem hp_M_dies : hs_prog 219 = (hs_k219, 3, 1) := rfl
set_option maxRecDepth 100000 in
theorem hq_M_dies (d : Nat) (x1 : Int32) (μ : hs_M)  : hc_M_dies (d + 1) x1 μ =
  hs_bI (hc_M_isAlive d x1 (hs_wI μ 12 0 0 (0 : Int32))) (fun r1 μ1 => (if r1 = 0 then some (some (vI (-1 : Int32)), μ1) else hs_bV (hc_M_putsBy d μ1) (fun μ2 => (if (μ2.1 45 0 17) = x1 then hs_bI (hc_M_falls d 45 (hs_wI μ2 45 0 16 ((μ2.1 45 0 16) &&& (((1 : Int32) <<< (x1 &&& 31)) ^^^ (-1 : Int32))))) (fun r3 μ3 => some (some (vI r3), (hs_wI (hs_wI μ3 45 0 17 (-1 : Int32)) 45 0 18 (0 : Int32)))) else some (some (vI (0 : Int32)), (hs_wI μ2 45 0 16 ((μ2.1 45 0 16) &&& (((1 : Int32) <<< (x1 &&& 31)) ^^^ (-1 : Int32))))))))) := by exact (hs_ev_go hp_M_dies [] 51 0 _ [] μ).trans rfl
theorem hp_M_served : hs_prog 220 = (hs_k220, 2, 1) := rfl
set_option maxRecDepth 100000 in
theorem hq_M_served (d : Nat) (x1 : Int32) (μ : hs_M)  : hc_M_served (d + 1) x1 μ =
  hs_bI (hc_Math_max d (0 : Int32) ((μ.1 45 0 19) - (60 : Int32)) (hs_wI μ 12 0 0 (0 : Int32))) (fun r1 μ1 => hs_bI (hc_M_in d (x1.toInt64) (r1.toInt64) (((μ1.1 45 0 19) - (1 : Int32)).toInt64) μ1) (fun r2 μ2 => (if r2 = 0 then some (some (vI (-2 : Int32)), μ2) else (if hs_in ((57 : Int32) + (x1 - x1 / (60 : Int32) * (60 : Int32))) 117 then some (some (vI (μ2.1 45 0 (((57 : Int32) + (x1 - x1 / (60 : Int32) * (60 : Int32))).toNatClampNeg))), μ2) else none)))) := by exact (hs_ev_go hp_M_served [] 37 0 _ [] μ).trans rfl
noncomputable def he_M_starts_13 (d : Nat) (x1 : Int32) (μ : hs_M) : Option (Option hs_V × hs_M) := hs_ev d 221 13 [some (vR 12 0), some (vI x1)] [] μ
theorem hp_M_starts : hs_prog 221 = (hs_k221, 2, 0) := rfl
set_option maxRecDepth 100000 in
theorem hq_M_starts (d : Nat)  (μ : hs_M)  : hc_M_starts (d + 1)  μ =
  hs_bV (hc_M_puts d 46 μ) (fun μ1 => he_M_starts_13 d (0 : Int32) μ1) := by exact (hs_ev_go hp_M_starts [13] 21 0 _ [] μ).trans rfl
set_option maxRecDepth 100000 in
theorem hq_M_starts_13 (d : Nat) (x1 : Int32) (μ : hs_M)  : he_M_starts_13 d x1 μ =
  (if x1 < (8 : Int32) then (if hs_in x1 8 then he_M_starts_13 d (x1 + (1 : Int32)) (hs_wI μ 57 0 (x1.toNatClampNeg) (0 : Int32)) else none) else some (none, μ)) := by exact (hs_ev_go hp_M_starts [13] 21 13 _ [] μ).trans rfl
noncomputable def he_M_goesNext_35 (d : Nat)  (μ : hs_M) : Option (Option hs_V × hs_M) := hs_ev d 222 35 [none, none] [] μ
theorem hp_M_goesNext : hs_prog 222 = (hs_k222, 2, 0) := rfl
set_option maxRecDepth 100000 in
theorem hq_M_goesNext (d : Nat) (x1 : Int32) (μ : hs_M)  : hc_M_goesNext (d + 1) x1 μ =
  hs_bV (hc_M_goes d 46 x1 μ) (fun μ1 => (if (μ1.1 46 0 17) < 0 then he_M_goesNext_35 d μ1 else (if hs_in (μ1.1 46 0 17) 8 then (if hs_in (μ1.1 46 0 17) 8 then he_M_goesNext_35 d (hs_wI μ1 57 0 ((μ1.1 46 0 17).toNatClampNeg) ((μ1.1 57 0 ((μ1.1 46 0 17).toNatClampNeg)) + (1 : Int32))) else none) else none))) := by exact (hs_ev_go hp_M_goesNext [35] 25 0 _ [] μ).trans rfl
set_option maxRecDepth 100000 in
theorem hq_M_goesNext_35 (d : Nat)  (μ : hs_M)  : he_M_goesNext_35 d  μ =
  some (none, μ) := by exact (hs_ev_go hp_M_goesNext [35] 25 35 _ [] μ).trans rfl
noncomputable def he_M_goesBy_2 (d : Nat) (x1 : Int32) (x2 : Int32) (x3 : Int32) (μ : hs_M) : Option (Option hs_V × hs_M) := hs_ev d 223 2 [some (vR 12 0), some (vI x1), some (vI x2), some (vI x3)] [] μ
theorem hp_M_goesBy : hs_prog 223 = (hs_k223, 4, 0) := rfl
set_option maxRecDepth 100000 in
theorem hq_M_goesBy (d : Nat) (x1 : Int32) (x2 : Int32) (μ : hs_M)  : hc_M_goesBy (d + 1) x1 x2 μ =
  he_M_goesBy_2 d x1 x2 (0 : Int32) μ := by exact (hs_ev_go hp_M_goesBy [2] 21 0 _ [] μ).trans rfl
set_option maxRecDepth 100000 in
theorem hq_M_goesBy_2 (d : Nat) (x1 : Int32) (x2 : Int32) (x3 : Int32) (μ : hs_M)  : he_M_goesBy_2 d x1 x2 x3 μ =
  (if x3 < x1 then hs_bI (hc_M_willing d 46 μ) (fun r1 μ1 => hs_bV (hc_M_goesNext d (r1 &&& (x2 ^^^ (-1 : Int32))) μ1) (fun μ2 => he_M_goesBy_2 d x1 x2 (x3 + (1 : Int32)) μ2)) else some (none, μ)) := by exact (hs_ev_go hp_M_goesBy [2] 21 2 _ [] μ).trans rfl
theorem hp_M_areWeeks : hs_prog 224 = (hs_k224, 1, 3) := rfl
set_option maxRecDepth 100000 in
theorem hq_M_areWeeks (d : Nat) (x0 : Int32) (μ : hs_M)  : hc_M_areWeeks (d + 1) x0 μ =
  hs_bI (hc_M_in d (x0.toInt64) (0 : Int64) (99 : Int64) μ) (fun r1 μ1 => hs_rz r1 μ1) := by exact (hs_ev_go hp_M_areWeeks [] 9 0 _ [] μ).trans rfl
noncomputable def he_M_later_20 (d : Nat)  (μ : hs_M) : Option (Option hs_V × hs_M) := hs_ev d 225 20 [none, none, none] [] μ
theorem hp_M_later : hs_prog 225 = (hs_k225, 3, 1) := rfl
set_option maxRecDepth 100000 in
theorem hq_M_later (d : Nat) (x1 : Int32) (x2 : Int32) (μ : hs_M)  : hc_M_later (d + 1) x1 x2 μ =
  hs_bI (hc_M_isAlive d x1 (hs_wI μ 12 0 0 (0 : Int32))) (fun r1 μ1 => (if r1 = 0 then he_M_later_20 d μ1 else hs_bI (hc_M_areWeeks d x2 μ1) (fun r2 μ2 => (if r2 = 0 then he_M_later_20 d μ2 else hs_bV (hc_M_starts d μ2) (fun μ3 => hs_bV (hc_M_goesBy d x2 (0 : Int32) μ3) (fun μ4 => (if hs_in x1 117 then some (some (vI (μ4.1 46 0 (x1.toNatClampNeg))), μ4) else none))))))) := by exact (hs_ev_go hp_M_later [20] 26 0 _ [] μ).trans rfl
set_option maxRecDepth 100000 in
theorem hq_M_later_20 (d : Nat)  (μ : hs_M)  : he_M_later_20 d  μ =
  some (some (vI (-1 : Int32)), μ) := by exact (hs_ev_go hp_M_later [20] 26 20 _ [] μ).trans rfl
noncomputable def he_M_then_32 (d : Nat) (x2 : Int32) (μ : hs_M) : Option (Option hs_V × hs_M) := hs_ev d 226 32 [some (vR 12 0), none, some (vI x2)] [] μ
theorem hp_M_then : hs_prog 226 = (hs_k226, 3, 1) := rfl
set_option maxRecDepth 100000 in
theorem hq_M_then (d : Nat) (x1 : Int32) (μ : hs_M)  : hc_M_then (d + 1) x1 μ =
  hs_bI (hc_M_areWeeks d x1 (hs_wI μ 12 0 0 (0 : Int32))) (fun r1 μ1 => (if r1 = 0 then some (some (vI (-2 : Int32)), μ1) else hs_bV (hc_M_starts d μ1) (fun μ2 => hs_bV (hc_M_goesBy d x1 (0 : Int32) μ2) (fun μ3 => he_M_then_32 d (0 : Int32) (hs_wI μ3 12 0 1 (0 : Int32)))))) := by exact (hs_ev_go hp_M_then [32] 40 0 _ [] μ).trans rfl
set_option maxRecDepth 100000 in
theorem hq_M_then_32 (d : Nat) (x2 : Int32) (μ : hs_M)  : he_M_then_32 d x2 μ =
  (if x2 < (μ.1 12 0 3) then (if hs_in x2 8 then hs_bV (hc_M_enters d ((μ.1 57 0 (x2.toNatClampNeg)).toInt64) μ) (fun μ1 => he_M_then_32 d (x2 + (1 : Int32)) μ1) else none) else some (some (vI (μ.1 46 0 17)), μ)) := by exact (hs_ev_go hp_M_then [32] 40 32 _ [] μ).trans rfl
noncomputable def he_M_soonest_35 (d : Nat) (x1 : Int32) (x2 : Int32) (μ : hs_M) : Option (Option hs_V × hs_M) := hs_ev d 227 35 [some (vR 12 0), some (vI x1), some (vI x2)] [] μ
theorem hp_M_soonest : hs_prog 227 = (hs_k227, 3, 1) := rfl
set_option maxRecDepth 100000 in
theorem hq_M_soonest (d : Nat) (x1 : Int32) (μ : hs_M)  : hc_M_soonest (d + 1) x1 μ =
  hs_bI (hc_M_isPerson d x1 (hs_wI μ 12 0 0 (0 : Int32))) (fun r1 μ1 => (if r1 = 0 then some (some (vI (-1 : Int32)), μ1) else (if (μ1.1 45 0 17) = x1 then some (some (vI (-3 : Int32)), μ1) else hs_bV (hc_M_starts d μ1) (fun μ2 => he_M_soonest_35 d x1 (1 : Int32) μ2)))) := by exact (hs_ev_go hp_M_soonest [35] 43 0 _ [] μ).trans rfl
set_option maxRecDepth 100000 in
theorem hq_M_soonest_35 (d : Nat) (x1 : Int32) (x2 : Int32) (μ : hs_M)  : he_M_soonest_35 d x1 x2 μ =
  (if (99 : Int32) < x2 then some (some (vI (-2 : Int32)), μ) else hs_bV (hc_M_goesBy d (1 : Int32) (0 : Int32) μ) (fun μ1 => (if (μ1.1 46 0 17) = x1 then some (some (vI x2), μ1) else he_M_soonest_35 d x1 (x2 + (1 : Int32)) μ1))) := by exact (hs_ev_go hp_M_soonest [35] 43 35 _ [] μ).trans rfl
noncomputable def he_M_ever_57 (d : Nat) (x1 : Int32) (x2 : Int32) (x3 : Int32) (x4 : Int32) (x5 : Int32) (μ : hs_M) : Option (Option hs_V × hs_M) := hs_ev d 228 57 [some (vR 12 0), some (vI x1), some (vI x2), some (vI x3), some (vI x4), some (vI x5), none, none, none, none] [] μ
noncomputable def he_M_ever_69 (d : Nat) (x1 : Int32) (x2 : Int32) (x3 : Int32) (x4 : Int32) (x5 : Int32) (x6 : Int32) (x7 : Int32) (μ : hs_M) : Option (Option hs_V × hs_M) := hs_ev d 228 69 [some (vR 12 0), some (vI x1), some (vI x2), some (vI x3), some (vI x4), some (vI x5), some (vI x6), some (vI x7), none, none] [] μ
noncomputable def he_M_ever_89 (d : Nat) (x1 : Int32) (x2 : Int32) (x3 : Int32) (x4 : Int32) (x5 : Int32) (x6 : Int32) (x7 : Int32) (x8 : Int32) (x9 : Int32) (μ : hs_M) : Option (Option hs_V × hs_M) := hs_ev d 228 89 [some (vR 12 0), some (vI x1), some (vI x2), some (vI x3), some (vI x4), some (vI x5), some (vI x6), some (vI x7), some (vI x8), some (vI x9)] [] μ
noncomputable def he_M_ever_144 (d : Nat) (x1 : Int32) (x2 : Int32) (x3 : Int32) (x4 : Int32) (x5 : Int32) (x6 : Int32) (x7 : Int32) (x9 : Int32) (μ : hs_M) : Option (Option hs_V × hs_M) := hs_ev d 228 144 [some (vR 12 0), some (vI x1), some (vI x2), some (vI x3), some (vI x4), some (vI x5), some (vI x6), some (vI x7), none, some (vI x9)] [] μ
noncomputable def he_M_ever_148 (d : Nat) (x1 : Int32) (x2 : Int32) (x3 : Int32) (x4 : Int32) (x5 : Int32) (x6 : Int32) (x7 : Int32) (x9 : Int32) (μ : hs_M) : Option (Option hs_V × hs_M) := hs_ev d 228 148 [some (vR 12 0), some (vI x1), some (vI x2), some (vI x3), some (vI x4), some (vI x5), some (vI x6), some (vI x7), none, some (vI x9)] [] μ
theorem hp_M_ever : hs_prog 228 = (hs_k228, 10, 1) := rfl
set_option maxRecDepth 100000 in
theorem hq_M_ever (d : Nat) (x1 : Int32) (μ : hs_M)  : hc_M_ever (d + 1) x1 μ =
  hs_bI (hc_M_in d (x1.toInt64) (0 : Int64) (12 : Int64) (hs_wI μ 12 0 0 (0 : Int32))) (fun r1 μ1 => (if r1 = 0 then some (some (vI (-1 : Int32)), μ1) else hs_bV (hc_M_starts d μ1) (fun μ2 => (if (μ2.1 45 0 17) < 0 then he_M_ever_57 d x1 (256 : Int32) (256 : Int32) (0 : Int32) (0 : Int32) μ2 else he_M_ever_57 d x1 (256 : Int32) ((1 : Int32) <<< ((μ2.1 45 0 17) &&& 31)) (0 : Int32) (0 : Int32) μ2)))) := by exact (hs_ev_go hp_M_ever [57, 69, 89, 144, 148] 138 0 _ [] μ).trans rfl
set_option maxRecDepth 100000 in
theorem hq_M_ever_57 (d : Nat) (x1 : Int32) (x2 : Int32) (x3 : Int32) (x4 : Int32) (x5 : Int32) (μ : hs_M)  : he_M_ever_57 d x1 x2 x3 x4 x5 μ =
  (if x5 < x1 then he_M_ever_69 d x1 x2 x3 x4 x5 x3 (0 : Int32) μ else (if x1 = 0 then hs_bV (hc_M_enters d (0 : Int64) (hs_wI μ 12 0 1 (0 : Int32))) (fun μ1 => some (some (vI x4), μ1)) else hs_bV (hc_M_enters d ((x3 &&& (x2 - (1 : Int32))).toInt64) (hs_wI μ 12 0 1 (0 : Int32))) (fun μ2 => some (some (vI x4), μ2)))) := by exact (hs_ev_go hp_M_ever [57, 69, 89, 144, 148] 138 57 _ [] μ).trans rfl
set_option maxRecDepth 100000 in
theorem hq_M_ever_69 (d : Nat) (x1 : Int32) (x2 : Int32) (x3 : Int32) (x4 : Int32) (x5 : Int32) (x6 : Int32) (x7 : Int32) (μ : hs_M)  : he_M_ever_69 d x1 x2 x3 x4 x5 x6 x7 μ =
  (if x7 < (μ.1 12 0 3) then hs_bI (hc_M_has d x3 (8 : Int32) μ) (fun r1 μ1 => he_M_ever_89 d x1 x2 x3 x4 x5 x6 x7 r1 (0 : Int32) μ1) else hs_bV (hc_M_goes d 46 (0 : Int32) μ) (fun μ2 => he_M_ever_57 d x1 x2 x6 (x4 ||| (x6 &&& (x2 - (1 : Int32)))) (x5 + (1 : Int32)) μ2)) := by exact (hs_ev_go hp_M_ever [57, 69, 89, 144, 148] 138 69 _ [] μ).trans rfl
set_option maxRecDepth 100000 in
theorem hq_M_ever_89 (d : Nat) (x1 : Int32) (x2 : Int32) (x3 : Int32) (x4 : Int32) (x5 : Int32) (x6 : Int32) (x7 : Int32) (x8 : Int32) (x9 : Int32) (μ : hs_M)  : he_M_ever_89 d x1 x2 x3 x4 x5 x6 x7 x8 x9 μ =
  (if x9 < (μ.1 12 0 3) then (if x8 = 0 then (if x9 = x7 then he_M_ever_148 d x1 x2 x3 x4 x5 x6 x7 x9 μ else hs_bI (hc_M_has d x3 x9 μ) (fun r1 μ1 => (if r1 = 0 then he_M_ever_148 d x1 x2 x3 x4 x5 x6 x7 x9 μ1 else (if hs_in x7 117 then hs_bI (hc_M_shows d (μ1.1 46 0 (x7.toNatClampNeg)) μ1) (fun r2 μ2 => (if hs_in x9 117 then hs_bI (hc_M_shows d (μ2.1 46 0 (x9.toNatClampNeg)) μ2) (fun r3 μ3 => (if r3 < r2 then he_M_ever_144 d x1 x2 x3 x4 x5 x6 x7 x9 μ3 else he_M_ever_148 d x1 x2 x3 x4 x5 x6 x7 x9 μ3)) else none)) else none)))) else he_M_ever_144 d x1 x2 x3 x4 x5 x6 x7 x9 μ) else hs_bI (hc_M_has d (μ.1 46 0 16) x7 μ) (fun r4 μ4 => (if r4 = 0 then he_M_ever_69 d x1 x2 x3 x4 x5 (x6 ||| (0 : Int32)) (x7 + (1 : Int32)) μ4 else (if x8 = 0 then he_M_ever_69 d x1 x2 x3 x4 x5 (x6 ||| (0 : Int32)) (x7 + (1 : Int32)) μ4 else he_M_ever_69 d x1 x2 x3 x4 x5 (x6 ||| ((1 : Int32) <<< (x7 &&& 31))) (x7 + (1 : Int32)) μ4)))) := by exact (hs_ev_go hp_M_ever [57, 69, 89, 144, 148] 138 89 _ [] μ).trans rfl
set_option maxRecDepth 100000 in
theorem hq_M_ever_144 (d : Nat) (x1 : Int32) (x2 : Int32) (x3 : Int32) (x4 : Int32) (x5 : Int32) (x6 : Int32) (x7 : Int32) (x9 : Int32) (μ : hs_M)  : he_M_ever_144 d x1 x2 x3 x4 x5 x6 x7 x9 μ =
  he_M_ever_89 d x1 x2 x3 x4 x5 x6 x7 (1 : Int32) (x9 + (1 : Int32)) μ := by exact (hs_ev_go hp_M_ever [57, 69, 89, 144, 148] 138 144 _ [] μ).trans rfl
set_option maxRecDepth 100000 in
theorem hq_M_ever_148 (d : Nat) (x1 : Int32) (x2 : Int32) (x3 : Int32) (x4 : Int32) (x5 : Int32) (x6 : Int32) (x7 : Int32) (x9 : Int32) (μ : hs_M)  : he_M_ever_148 d x1 x2 x3 x4 x5 x6 x7 x9 μ =
  he_M_ever_89 d x1 x2 x3 x4 x5 x6 x7 (0 : Int32) (x9 + (1 : Int32)) μ := by exact (hs_ev_go hp_M_ever [57, 69, 89, 144, 148] 138 148 _ [] μ).trans rfl
noncomputable def he_M_most_25 (d : Nat)  (μ : hs_M) : Option (Option hs_V × hs_M) := hs_ev d 229 25 [none, none, none, none, none, none, none] [] μ
noncomputable def he_M_most_35 (d : Nat) (x1 : Int32) (x2 : Int32) (x3 : Int32) (x4 : Int32) (x5 : Int32) (μ : hs_M) : Option (Option hs_V × hs_M) := hs_ev d 229 35 [some (vR 12 0), some (vI x1), some (vI x2), some (vI x3), some (vI x4), some (vI x5), none] [] μ
noncomputable def he_M_most_50 (d : Nat) (x1 : Int32) (x2 : Int32) (x3 : Int32) (x4 : Int32) (x5 : Int32) (x6 : Int32) (μ : hs_M) : Option (Option hs_V × hs_M) := hs_ev d 229 50 [some (vR 12 0), some (vI x1), some (vI x2), some (vI x3), some (vI x4), some (vI x5), some (vI x6)] [] μ
noncomputable def he_M_most_125 (d : Nat) (x1 : Int32) (x2 : Int32) (x3 : Int32) (x4 : Int32) (x5 : Int32) (μ : hs_M) : Option (Option hs_V × hs_M) := hs_ev d 229 125 [some (vR 12 0), some (vI x1), some (vI x2), some (vI x3), some (vI x4), some (vI x5), none] [] μ
noncomputable def he_M_most_143 (d : Nat) (x1 : Int32) (x2 : Int32) (x5 : Int32) (μ : hs_M) : Option (Option hs_V × hs_M) := hs_ev d 229 143 [some (vR 12 0), some (vI x1), some (vI x2), none, none, some (vI x5), none] [] μ
theorem hp_M_most : hs_prog 229 = (hs_k229, 7, 1) := rfl
set_option maxRecDepth 100000 in
theorem hq_M_most (d : Nat) (x1 : Int32) (x2 : Int32) (μ : hs_M)  : hc_M_most (d + 1) x1 x2 μ =
  hs_bI (hc_M_isAlive d x1 (hs_wI μ 12 0 0 (0 : Int32))) (fun r1 μ1 => (if r1 = 0 then he_M_most_25 d μ1 else hs_bI (hc_M_in d (x2.toInt64) (0 : Int64) (10 : Int64) μ1) (fun r2 μ2 => (if r2 = 0 then he_M_most_25 d μ2 else he_M_most_35 d x1 x2 (-1 : Int32) (0 : Int32) (0 : Int32) μ2)))) := by exact (hs_ev_go hp_M_most [25, 35, 50, 125, 143] 101 0 _ [] μ).trans rfl
set_option maxRecDepth 100000 in
theorem hq_M_most_25 (d : Nat)  (μ : hs_M)  : he_M_most_25 d  μ =
  some (some (vI (-1 : Int32)), μ) := by exact (hs_ev_go hp_M_most [25, 35, 50, 125, 143] 101 25 _ [] μ).trans rfl
set_option maxRecDepth 100000 in
theorem hq_M_most_35 (d : Nat) (x1 : Int32) (x2 : Int32) (x3 : Int32) (x4 : Int32) (x5 : Int32) (μ : hs_M)  : he_M_most_35 d x1 x2 x3 x4 x5 μ =
  (if x5 < ((1 : Int32) <<< (x2 &&& 31)) then hs_bV (hc_M_starts d μ) (fun μ1 => he_M_most_50 d x1 x2 x3 x4 x5 (0 : Int32) μ1) else hs_bV (hc_M_enters d (x4.toInt64) (hs_wI μ 12 0 1 (0 : Int32))) (fun μ2 => some (some (vI x3), μ2))) := by exact (hs_ev_go hp_M_most [25, 35, 50, 125, 143] 101 35 _ [] μ).trans rfl
set_option maxRecDepth 100000 in
theorem hq_M_most_50 (d : Nat) (x1 : Int32) (x2 : Int32) (x3 : Int32) (x4 : Int32) (x5 : Int32) (x6 : Int32) (μ : hs_M)  : he_M_most_50 d x1 x2 x3 x4 x5 x6 μ =
  (if x6 < x2 then hs_bI (hc_M_willing d 46 μ) (fun r1 μ1 => hs_bI (hc_M_has d x5 x6 μ1) (fun r2 μ2 => (if r2 = 0 then hs_bV (hc_M_goesNext d ((r1 &&& (((1 : Int32) <<< (x1 &&& 31)) ^^^ (-1 : Int32))) ||| (0 : Int32)) μ2) (fun μ3 => he_M_most_50 d x1 x2 x3 x4 x5 (x6 + (1 : Int32)) μ3) else hs_bV (hc_M_goesNext d ((r1 &&& (((1 : Int32) <<< (x1 &&& 31)) ^^^ (-1 : Int32))) ||| ((1 : Int32) <<< (x1 &&& 31))) μ2) (fun μ4 => he_M_most_50 d x1 x2 x3 x4 x5 (x6 + (1 : Int32)) μ4)))) else (if hs_in x1 8 then (if (μ.1 57 0 (x1.toNatClampNeg)) = x3 then hs_bI (hc_Int_bitCount d x5 μ) (fun r5 μ5 => hs_bI (hc_Int_bitCount d x4 μ5) (fun r6 μ6 => (if r5 < r6 then (if hs_in x1 8 then (if x3 < (μ6.1 57 0 (x1.toNatClampNeg)) then he_M_most_143 d x1 x2 x5 μ6 else he_M_most_143 d x1 x2 x5 μ6) else none) else he_M_most_125 d x1 x2 x3 x4 x5 μ6))) else he_M_most_125 d x1 x2 x3 x4 x5 μ) else none)) := by exact (hs_ev_go hp_M_most [25, 35, 50, 125, 143] 101 50 _ [] μ).trans rfl
set_option maxRecDepth 100000 in
theorem hq_M_most_125 (d : Nat) (x1 : Int32) (x2 : Int32) (x3 : Int32) (x4 : Int32) (x5 : Int32) (μ : hs_M)  : he_M_most_125 d x1 x2 x3 x4 x5 μ =
  (if hs_in x1 8 then (if x3 < (μ.1 57 0 (x1.toNatClampNeg)) then he_M_most_143 d x1 x2 x5 μ else he_M_most_35 d x1 x2 x3 x4 (x5 + (1 : Int32)) μ) else none) := by exact (hs_ev_go hp_M_most [25, 35, 50, 125, 143] 101 125 _ [] μ).trans rfl
set_option maxRecDepth 100000 in
theorem hq_M_most_143 (d : Nat) (x1 : Int32) (x2 : Int32) (x5 : Int32) (μ : hs_M)  : he_M_most_143 d x1 x2 x5 μ =
  (if hs_in x1 8 then he_M_most_35 d x1 x2 (μ.1 57 0 (x1.toNatClampNeg)) x5 (x5 + (1 : Int32)) μ else none) := by exact (hs_ev_go hp_M_most [25, 35, 50, 125, 143] 101 143 _ [] μ).trans rfl
noncomputable def he_M_byPlans_6 (d : Nat) (x1 : Int32) (x2 : Int32) (x3 : Int32) (μ : hs_M) : Option (Option hs_V × hs_M) := hs_ev d 230 6 [some (vR 12 0), some (vI x1), some (vI x2), some (vI x3), none, none] [] μ
noncomputable def he_M_byPlans_17 (d : Nat) (x1 : Int32) (x2 : Int32) (x3 : Int32) (x4 : Int32) (x5 : Int32) (μ : hs_M) : Option (Option hs_V × hs_M) := hs_ev d 230 17 [some (vR 12 0), some (vI x1), some (vI x2), some (vI x3), some (vI x4), some (vI x5)] [] μ
theorem hp_M_byPlans : hs_prog 230 = (hs_k230, 6, 1) := rfl
set_option maxRecDepth 100000 in
theorem hq_M_byPlans (d : Nat) (x1 : Int32) (x2 : Int32) (μ : hs_M)  : hc_M_byPlans (d + 1) x1 x2 μ =
  hs_bV (hc_M_starts d μ) (fun μ1 => he_M_byPlans_6 d x1 x2 (0 : Int32) μ1) := by exact (hs_ev_go hp_M_byPlans [6, 17] 45 0 _ [] μ).trans rfl
set_option maxRecDepth 100000 in
theorem hq_M_byPlans_6 (d : Nat) (x1 : Int32) (x2 : Int32) (x3 : Int32) (μ : hs_M)  : he_M_byPlans_6 d x1 x2 x3 μ =
  (if x3 < x2 then he_M_byPlans_17 d x1 x2 x3 (0 : Int32) (0 : Int32) μ else (if hs_in x1 8 then some (some (vI (μ.1 57 0 (x1.toNatClampNeg))), μ) else none)) := by exact (hs_ev_go hp_M_byPlans [6, 17] 45 6 _ [] μ).trans rfl
set_option maxRecDepth 100000 in
theorem hq_M_byPlans_17 (d : Nat) (x1 : Int32) (x2 : Int32) (x3 : Int32) (x4 : Int32) (x5 : Int32) (μ : hs_M)  : he_M_byPlans_17 d x1 x2 x3 x4 x5 μ =
  (if x5 < (μ.1 12 0 3) then (if hs_in x5 8 then hs_bI (hc_M_has d (μ.1 58 0 (x5.toNatClampNeg)) x3 μ) (fun r1 μ1 => (if r1 = 0 then he_M_byPlans_17 d x1 x2 x3 (x4 ||| (0 : Int32)) (x5 + (1 : Int32)) μ1 else he_M_byPlans_17 d x1 x2 x3 (x4 ||| ((1 : Int32) <<< (x5 &&& 31))) (x5 + (1 : Int32)) μ1)) else none) else hs_bV (hc_M_goesNext d x4 μ) (fun μ2 => he_M_byPlans_6 d x1 x2 (x3 + (1 : Int32)) μ2)) := by exact (hs_ev_go hp_M_byPlans [6, 17] 45 17 _ [] μ).trans rfl
noncomputable def he_M_plans_21 (d : Nat) (x1 : Int32) (x2 : Int32) (x3 : Int32) (x4 : Int32) (x5 : Int32) (x6 : Int32) (μ : hs_M) : Option (Option hs_V × hs_M) := hs_ev d 231 21 [some (vR 12 0), some (vI x1), some (vI x2), some (vI x3), some (vI x4), some (vI x5), some (vI x6), none] [] μ
theorem hp_M_plans : hs_prog 231 = (hs_k231, 8, 3) := rfl
set_option maxRecDepth 100000 in
theorem hq_M_plans (d : Nat) (x1 : Int32) (x2 : Int32) (μ : hs_M)  : hc_M_plans (d + 1) x1 x2 μ =
  (if hs_in x1 8 then hs_bI (hc_M_byPlans d x1 x2 μ) (fun r1 μ1 => he_M_plans_21 d x1 x2 (μ.1 58 0 (x1.toNatClampNeg)) (μ.1 58 0 (x1.toNatClampNeg)) r1 (0 : Int32) μ1) else none) := by exact (hs_ev_go hp_M_plans [21] 57 0 _ [] μ).trans rfl
set_option maxRecDepth 100000 in
theorem hq_M_plans_21 (d : Nat) (x1 : Int32) (x2 : Int32) (x3 : Int32) (x4 : Int32) (x5 : Int32) (x6 : Int32) (μ : hs_M)  : he_M_plans_21 d x1 x2 x3 x4 x5 x6 μ =
  (if x6 < ((1 : Int32) <<< (x2 &&& 31)) then (if hs_in x1 8 then hs_bI (hc_M_byPlans d x1 x2 (hs_wI μ 58 0 (x1.toNatClampNeg) x6)) (fun r1 μ1 => (if x5 < r1 then hs_bI (hc_Math_max d x5 r1 μ1) (fun r2 μ2 => he_M_plans_21 d x1 x2 x3 x6 r2 (x6 + (1 : Int32)) μ2) else hs_bI (hc_Math_max d x5 r1 μ1) (fun r3 μ3 => he_M_plans_21 d x1 x2 x3 x4 r3 (x6 + (1 : Int32)) μ3))) else none) else (if hs_in x1 8 then (if x4 = x3 then hs_rz (0 : Int32) (hs_wI μ 58 0 (x1.toNatClampNeg) x4) else hs_rz (1 : Int32) (hs_wI μ 58 0 (x1.toNatClampNeg) x4)) else none)) := by exact (hs_ev_go hp_M_plans [21] 57 21 _ [] μ).trans rfl
noncomputable def he_M_rests_29 (d : Nat)  (μ : hs_M) : Option (Option hs_V × hs_M) := hs_ev d 232 29 [none, none, none, none, none, none] [] μ
noncomputable def he_M_rests_33 (d : Nat) (x1 : Int32) (x2 : Int32) (x3 : Int32) (μ : hs_M) : Option (Option hs_V × hs_M) := hs_ev d 232 33 [some (vR 12 0), some (vI x1), some (vI x2), some (vI x3), none, none] [] μ
noncomputable def he_M_rests_61 (d : Nat) (x1 : Int32) (x2 : Int32) (x3 : Int32) (x4 : Int32) (μ : hs_M) : Option (Option hs_V × hs_M) := hs_ev d 232 61 [some (vR 12 0), some (vI x1), some (vI x2), some (vI x3), some (vI x4), none] [] μ
noncomputable def he_M_rests_77 (d : Nat) (x1 : Int32) (x2 : Int32) (x3 : Int32) (x4 : Int32) (x5 : Int32) (μ : hs_M) : Option (Option hs_V × hs_M) := hs_ev d 232 77 [some (vR 12 0), some (vI x1), some (vI x2), some (vI x3), some (vI x4), some (vI x5)] [] μ
noncomputable def he_M_rests_105 (d : Nat) (x1 : Int32) (x2 : Int32) (x3 : Int32) (x4 : Int32) (x5 : Int32) (μ : hs_M) : Option (Option hs_V × hs_M) := hs_ev d 232 105 [some (vR 12 0), some (vI x1), some (vI x2), some (vI x3), some (vI x4), some (vI x5)] [] μ
noncomputable def he_M_rests_129 (d : Nat) (x3 : Int32) (x4 : Int32) (μ : hs_M) : Option (Option hs_V × hs_M) := hs_ev d 232 129 [some (vR 12 0), none, none, some (vI x3), some (vI x4), none] [] μ
noncomputable def he_M_rests_147 (d : Nat) (x3 : Int32) (x5 : Int32) (μ : hs_M) : Option (Option hs_V × hs_M) := hs_ev d 232 147 [some (vR 12 0), none, none, some (vI x3), none, some (vI x5)] [] μ
theorem hp_M_rests : hs_prog 232 = (hs_k232, 6, 1) := rfl
set_option maxRecDepth 100000 in
theorem hq_M_rests (d : Nat) (x1 : Int32) (x2 : Int32) (μ : hs_M)  : hc_M_rests (d + 1) x1 x2 μ =
  hs_bI (hc_M_in d (x1.toInt64) (1 : Int64) (4 : Int64) (hs_wI μ 12 0 0 (0 : Int32))) (fun r1 μ1 => (if r1 = 0 then he_M_rests_29 d μ1 else hs_bI (hc_M_in d (x2.toInt64) (0 : Int64) (20 : Int64) μ1) (fun r2 μ2 => (if r2 = 0 then he_M_rests_29 d μ2 else he_M_rests_33 d x1 x2 (0 : Int32) μ2)))) := by exact (hs_ev_go hp_M_rests [29, 33, 61, 77, 105, 129, 147] 97 0 _ [] μ).trans rfl
set_option maxRecDepth 100000 in
theorem hq_M_rests_29 (d : Nat)  (μ : hs_M)  : he_M_rests_29 d  μ =
  some (some (vI (-1 : Int32)), μ) := by exact (hs_ev_go hp_M_rests [29, 33, 61, 77, 105, 129, 147] 97 29 _ [] μ).trans rfl
set_option maxRecDepth 100000 in
theorem hq_M_rests_33 (d : Nat) (x1 : Int32) (x2 : Int32) (x3 : Int32) (μ : hs_M)  : he_M_rests_33 d x1 x2 x3 μ =
  (if x3 < (8 : Int32) then (if hs_in x3 8 then he_M_rests_33 d x1 x2 (x3 + (1 : Int32)) (hs_wI μ 58 0 (x3.toNatClampNeg) (((1 : Int32) <<< (x1 &&& 31)) - (1 : Int32))) else none) else he_M_rests_61 d x1 x2 (0 : Int32) (0 : Int32) μ) := by exact (hs_ev_go hp_M_rests [29, 33, 61, 77, 105, 129, 147] 97 33 _ [] μ).trans rfl
set_option maxRecDepth 100000 in
theorem hq_M_rests_61 (d : Nat) (x1 : Int32) (x2 : Int32) (x3 : Int32) (x4 : Int32) (μ : hs_M)  : he_M_rests_61 d x1 x2 x3 x4 μ =
  (if x3 < x2 then (if x4 = 0 then he_M_rests_77 d x1 x2 x3 (1 : Int32) (0 : Int32) μ else he_M_rests_129 d x3 x4 μ) else he_M_rests_129 d x3 x4 μ) := by exact (hs_ev_go hp_M_rests [29, 33, 61, 77, 105, 129, 147] 97 61 _ [] μ).trans rfl
set_option maxRecDepth 100000 in
theorem hq_M_rests_77 (d : Nat) (x1 : Int32) (x2 : Int32) (x3 : Int32) (x4 : Int32) (x5 : Int32) (μ : hs_M)  : he_M_rests_77 d x1 x2 x3 x4 x5 μ =
  (if x5 < (μ.1 12 0 3) then hs_bI (hc_M_isAlive d x5 μ) (fun r1 μ1 => (if r1 = 0 then he_M_rests_105 d x1 x2 x3 x4 x5 μ1 else hs_bI (hc_M_plans d x5 x1 μ1) (fun r2 μ2 => (if r2 = 0 then he_M_rests_105 d x1 x2 x3 x4 x5 μ2 else he_M_rests_77 d x1 x2 x3 (0 : Int32) (x5 + (1 : Int32)) μ2)))) else he_M_rests_61 d x1 x2 (x3 + (1 : Int32)) x4 μ) := by exact (hs_ev_go hp_M_rests [29, 33, 61, 77, 105, 129, 147] 97 77 _ [] μ).trans rfl
set_option maxRecDepth 100000 in
theorem hq_M_rests_105 (d : Nat) (x1 : Int32) (x2 : Int32) (x3 : Int32) (x4 : Int32) (x5 : Int32) (μ : hs_M)  : he_M_rests_105 d x1 x2 x3 x4 x5 μ =
  (if x4 = 0 then he_M_rests_77 d x1 x2 x3 (0 : Int32) (x5 + (1 : Int32)) μ else he_M_rests_77 d x1 x2 x3 (1 : Int32) (x5 + (1 : Int32)) μ) := by exact (hs_ev_go hp_M_rests [29, 33, 61, 77, 105, 129, 147] 97 105 _ [] μ).trans rfl
set_option maxRecDepth 100000 in
theorem hq_M_rests_129 (d : Nat) (x3 : Int32) (x4 : Int32) (μ : hs_M)  : he_M_rests_129 d x3 x4 μ =
  hs_bI (hc_M_flag d x4 (hs_wI μ 12 0 1 (0 : Int32))) (fun r1 μ1 => hs_bV (hc_M_enters d (r1.toInt64) μ1) (fun μ2 => he_M_rests_147 d x3 (0 : Int32) μ2)) := by exact (hs_ev_go hp_M_rests [29, 33, 61, 77, 105, 129, 147] 97 129 _ [] μ).trans rfl
set_option maxRecDepth 100000 in
theorem hq_M_rests_147 (d : Nat) (x3 : Int32) (x5 : Int32) (μ : hs_M)  : he_M_rests_147 d x3 x5 μ =
  (if x5 < (μ.1 12 0 3) then (if hs_in x5 8 then hs_bV (hc_M_enters d ((μ.1 58 0 (x5.toNatClampNeg)).toInt64) μ) (fun μ1 => he_M_rests_147 d x3 (x5 + (1 : Int32)) μ1) else none) else some (some (vI x3), μ)) := by exact (hs_ev_go hp_M_rests [29, 33, 61, 77, 105, 129, 147] 97 147 _ [] μ).trans rfl
noncomputable def he_M_servedBy_4 (d : Nat) (x1 : Int32) (x2 : Int32) (x3 : Int32) (μ : hs_M) : Option (Option hs_V × hs_M) := hs_ev d 233 4 [some (vR 12 0), some (vI x1), some (vI x2), some (vI x3)] [] μ
theorem hp_M_servedBy : hs_prog 233 = (hs_k233, 4, 1) := rfl
set_option maxRecDepth 100000 in
theorem hq_M_servedBy (d : Nat) (x1 : Int32) (μ : hs_M)  : hc_M_servedBy (d + 1) x1 μ =
  he_M_servedBy_4 d x1 (0 : Int32) (0 : Int32) μ := by exact (hs_ev_go hp_M_servedBy [4] 30 0 _ [] μ).trans rfl
set_option maxRecDepth 100000 in
theorem hq_M_servedBy_4 (d : Nat) (x1 : Int32) (x2 : Int32) (x3 : Int32) (μ : hs_M)  : he_M_servedBy_4 d x1 x2 x3 μ =
  (if x3 < (μ.1 12 0 3) then (if hs_in x3 8 then (if (μ.1 41 0 (x3.toNatClampNeg)) = x1 then (if hs_in x3 8 then he_M_servedBy_4 d x1 (x2 + (μ.1 57 0 (x3.toNatClampNeg))) (x3 + (1 : Int32)) μ else none) else he_M_servedBy_4 d x1 (x2 + (0 : Int32)) (x3 + (1 : Int32)) μ) else none) else some (some (vI x2), μ)) := by exact (hs_ev_go hp_M_servedBy [4] 30 4 _ [] μ).trans rfl
noncomputable def he_M_party_40 (d : Nat) (x2 : Int32) (x3 : Int32) (x4 : Int32) (x5 : Int32) (μ : hs_M) : Option (Option hs_V × hs_M) := hs_ev d 234 40 [some (vR 12 0), none, some (vI x2), some (vI x3), some (vI x4), some (vI x5), none] [] μ
noncomputable def he_M_party_90 (d : Nat) (x2 : Int32) (x4 : Int32) (x5 : Int32) (μ : hs_M) : Option (Option hs_V × hs_M) := hs_ev d 234 90 [some (vR 12 0), none, some (vI x2), none, some (vI x4), some (vI x5), none] [] μ
theorem hp_M_party : hs_prog 234 = (hs_k234, 7, 1) := rfl
set_option maxRecDepth 100000 in
theorem hq_M_party (d : Nat) (x1 : Int32) (μ : hs_M)  : hc_M_party (d + 1) x1 μ =
  hs_bI (hc_M_areWeeks d x1 (hs_wI μ 12 0 0 (0 : Int32))) (fun r1 μ1 => (if r1 = 0 then some (some (vI (-2 : Int32)), μ1) else hs_bV (hc_M_starts d μ1) (fun μ2 => hs_bV (hc_M_goesBy d x1 (0 : Int32) μ2) (fun μ3 => he_M_party_40 d (-1 : Int32) (0 : Int32) (0 : Int32) (0 : Int32) (hs_wI μ3 12 0 1 (0 : Int32)))))) := by exact (hs_ev_go hp_M_party [40, 90] 79 0 _ [] μ).trans rfl
set_option maxRecDepth 100000 in
theorem hq_M_party_40 (d : Nat) (x2 : Int32) (x3 : Int32) (x4 : Int32) (x5 : Int32) (μ : hs_M)  : he_M_party_40 d x2 x3 x4 x5 μ =
  (if x5 < (4 : Int32) then hs_bI (hc_M_servedBy d x5 μ) (fun r1 μ1 => hs_bV (hc_M_enters d (r1.toInt64) μ1) (fun μ2 => (if x3 < r1 then hs_bI (hc_Math_max d x3 r1 μ2) (fun r3 μ3 => he_M_party_40 d x5 r3 x4 (x5 + (1 : Int32)) μ3) else hs_bI (hc_Math_max d x3 r1 μ2) (fun r4 μ4 => he_M_party_40 d x2 r4 x4 (x5 + (1 : Int32)) μ4)))) else he_M_party_90 d x2 x4 (0 : Int32) μ) := by exact (hs_ev_go hp_M_party [40, 90] 79 40 _ [] μ).trans rfl
set_option maxRecDepth 100000 in
theorem hq_M_party_90 (d : Nat) (x2 : Int32) (x4 : Int32) (x5 : Int32) (μ : hs_M)  : he_M_party_90 d x2 x4 x5 μ =
  (if x5 < (μ.1 12 0 3) then (if hs_in x5 8 then (if 0 < (μ.1 57 0 (x5.toNatClampNeg)) then he_M_party_90 d x2 (x4 ||| ((1 : Int32) <<< (x5 &&& 31))) (x5 + (1 : Int32)) μ else he_M_party_90 d x2 (x4 ||| (0 : Int32)) (x5 + (1 : Int32)) μ) else none) else hs_bV (hc_M_enters d (x4.toInt64) μ) (fun μ1 => some (some (vI x2), μ1))) := by exact (hs_ev_go hp_M_party [40, 90] 79 90 _ [] μ).trans rfl
noncomputable def he_M_byTurns_24 (d : Nat)  (μ : hs_M) : Option (Option hs_V × hs_M) := hs_ev d 235 24 [none, none, none, none, none, none, none, none] [] μ
noncomputable def he_M_byTurns_48 (d : Nat) (x1 : Int32) (x2 : Int32) (x3 : Int32) (x4 : Int32) (x5 : Int32) (μ : hs_M) : Option (Option hs_V × hs_M) := hs_ev d 235 48 [some (vR 12 0), some (vI x1), some (vI x2), some (vI x3), some (vI x4), some (vI x5), none, none] [] μ
noncomputable def he_M_byTurns_112 (d : Nat) (x1 : Int32) (x2 : Int32) (x3 : Int32) (x4 : Int32) (x5 : Int32) (x6 : Int32) (μ : hs_M) : Option (Option hs_V × hs_M) := hs_ev d 235 112 [some (vR 12 0), some (vI x1), some (vI x2), some (vI x3), some (vI x4), some (vI x5), some (vI x6), none] [] μ
noncomputable def he_M_byTurns_147 (d : Nat) (x1 : Int32) (x2 : Int32) (x3 : Int32) (x4 : Int32) (x5 : Int32) (x6 : Int32) (x7 : Int32) (μ : hs_M) : Option (Option hs_V × hs_M) := hs_ev d 235 147 [some (vR 12 0), some (vI x1), some (vI x2), some (vI x3), some (vI x4), some (vI x5), some (vI x6), some (vI x7)] [] μ
theorem hp_M_byTurns : hs_prog 235 = (hs_k235, 8, 1) := rfl
set_option maxRecDepth 100000 in
theorem hq_M_byTurns (d : Nat) (x1 : Int32) (x2 : Int32) (μ : hs_M)  : hc_M_byTurns (d + 1) x1 x2 μ =
  hs_bI (hc_M_in d (x1.toInt64) (0 : Int64) (3 : Int64) (hs_wI μ 12 0 0 (0 : Int32))) (fun r1 μ1 => (if r1 = 0 then he_M_byTurns_24 d μ1 else hs_bI (hc_M_areWeeks d x2 μ1) (fun r2 μ2 => (if r2 = 0 then he_M_byTurns_24 d μ2 else hs_bV (hc_M_starts d μ2) (fun μ3 => hs_bV (hc_M_goesBy d x2 (0 : Int32) μ3) (fun μ4 => hs_bI (hc_M_servedBy d x1 μ4) (fun r5 μ5 => he_M_byTurns_48 d x1 x2 r5 (0 : Int32) (0 : Int32) μ5))))))) := by exact (hs_ev_go hp_M_byTurns [24, 48, 112, 147] 121 0 _ [] μ).trans rfl
set_option maxRecDepth 100000 in
theorem hq_M_byTurns_24 (d : Nat)  (μ : hs_M)  : he_M_byTurns_24 d  μ =
  some (some (vI (-1 : Int32)), μ) := by exact (hs_ev_go hp_M_byTurns [24, 48, 112, 147] 121 24 _ [] μ).trans rfl
set_option maxRecDepth 100000 in
theorem hq_M_byTurns_48 (d : Nat) (x1 : Int32) (x2 : Int32) (x3 : Int32) (x4 : Int32) (x5 : Int32) (μ : hs_M)  : he_M_byTurns_48 d x1 x2 x3 x4 x5 μ =
  (if x5 < (μ.1 12 0 3) then (if hs_in x5 8 then (if (μ.1 41 0 (x5.toNatClampNeg)) = x1 then hs_bI (hc_M_has d (μ.1 45 0 16) x5 μ) (fun r1 μ1 => (if r1 = 0 then he_M_byTurns_48 d x1 x2 x3 (x4 ||| (0 : Int32)) (x5 + (1 : Int32)) μ1 else he_M_byTurns_48 d x1 x2 x3 (x4 ||| ((1 : Int32) <<< (x5 &&& 31))) (x5 + (1 : Int32)) μ1)) else he_M_byTurns_48 d x1 x2 x3 (x4 ||| (0 : Int32)) (x5 + (1 : Int32)) μ) else none) else hs_bV (hc_M_starts d μ) (fun μ2 => he_M_byTurns_112 d x1 x2 x3 x4 (-1 : Int32) (0 : Int32) μ2)) := by exact (hs_ev_go hp_M_byTurns [24, 48, 112, 147] 121 48 _ [] μ).trans rfl
set_option maxRecDepth 100000 in
theorem hq_M_byTurns_112 (d : Nat) (x1 : Int32) (x2 : Int32) (x3 : Int32) (x4 : Int32) (x5 : Int32) (x6 : Int32) (μ : hs_M)  : he_M_byTurns_112 d x1 x2 x3 x4 x5 x6 μ =
  (if x6 < x2 then hs_bI (hc_M_willing d 46 μ) (fun r1 μ1 => (if x4 = 0 then hs_bV (hc_M_goesNext d (r1 &&& (x4 ^^^ (-1 : Int32))) μ1) (fun μ2 => he_M_byTurns_112 d x1 x2 x3 x4 x5 (x6 + (1 : Int32)) μ2) else he_M_byTurns_147 d x1 x2 x3 x4 ((x5 + (1 : Int32)) - (x5 + (1 : Int32)) / (8 : Int32) * (8 : Int32)) x6 (r1 &&& (x4 ^^^ (-1 : Int32))) μ1)) else hs_bI (hc_M_servedBy d x1 (hs_wI μ 12 0 1 (0 : Int32))) (fun r3 μ3 => hs_bV (hc_M_enters d ((r3 - x3).toInt64) μ3) (fun μ4 => hs_bI (hc_M_servedBy d x1 μ4) (fun r5 μ5 => some (some (vI r5), μ5))))) := by exact (hs_ev_go hp_M_byTurns [24, 48, 112, 147] 121 112 _ [] μ).trans rfl
set_option maxRecDepth 100000 in
theorem hq_M_byTurns_147 (d : Nat) (x1 : Int32) (x2 : Int32) (x3 : Int32) (x4 : Int32) (x5 : Int32) (x6 : Int32) (x7 : Int32) (μ : hs_M)  : he_M_byTurns_147 d x1 x2 x3 x4 x5 x6 x7 μ =
  hs_bI (hc_M_has d x4 x5 μ) (fun r1 μ1 => (if r1 = 0 then he_M_byTurns_147 d x1 x2 x3 x4 ((x5 + (1 : Int32)) - (x5 + (1 : Int32)) / (8 : Int32) * (8 : Int32)) x6 x7 μ1 else hs_bV (hc_M_goesNext d (x7 ||| ((1 : Int32) <<< (x5 &&& 31))) μ1) (fun μ2 => he_M_byTurns_112 d x1 x2 x3 x4 x5 (x6 + (1 : Int32)) μ2))) := by exact (hs_ev_go hp_M_byTurns [24, 48, 112, 147] 121 147 _ [] μ).trans rfl
noncomputable def he_M_fool_20 (d : Nat)  (μ : hs_M) : Option (Option hs_V × hs_M) := hs_ev d 236 20 [some (vR 12 0), none, none, none, none] [] μ
theorem hp_M_fool : hs_prog 236 = (hs_k236, 5, 1) := rfl
set_option maxRecDepth 100000 in
theorem hq_M_fool (d : Nat) (x1 : Int32) (x2 : Int32) (μ : hs_M)  : hc_M_fool (d + 1) x1 x2 μ =
  hs_bI (hc_M_isPerson d x1 (hs_wI μ 12 0 0 (0 : Int32))) (fun r1 μ1 => (if r1 = 0 then he_M_fool_20 d μ1 else hs_bI (hc_M_areWeeks d x2 μ1) (fun r2 μ2 => (if r2 = 0 then he_M_fool_20 d μ2 else hs_bV (hc_M_starts d μ2) (fun μ3 => hs_bV (hc_M_goesBy d x2 (0 : Int32) μ3) (fun μ4 => (if hs_in x1 8 then hs_bI (hc_M_servedBy d (μ4.1 41 0 (x1.toNatClampNeg)) μ4) (fun r5 μ5 => hs_bV (hc_M_starts d μ5) (fun μ6 => hs_bV (hc_M_goesBy d x2 ((1 : Int32) <<< (x1 &&& 31)) μ6) (fun μ7 => (if hs_in x1 8 then hs_bI (hc_M_servedBy d (μ7.1 41 0 (x1.toNatClampNeg)) μ7) (fun r8 μ8 => hs_bV (hc_M_enters d (r5.toInt64) (hs_wI μ8 12 0 1 (0 : Int32))) (fun μ9 => hs_bV (hc_M_enters d (r8.toInt64) μ9) (fun μ10 => some (some (vI (r5 - r8)), μ10)))) else none)))) else none))))))) := by exact (hs_ev_go hp_M_fool [20] 59 0 _ [] μ).trans rfl
set_option maxRecDepth 100000 in
theorem hq_M_fool_20 (d : Nat)  (μ : hs_M)  : he_M_fool_20 d  μ =
  hs_bI (hc_M_refuse d μ) (fun r1 μ1 => some (some (vI r1), μ1)) := by exact (hs_ev_go hp_M_fool [20] 59 20 _ [] μ).trans rfl
theorem hp_M_areSixty : hs_prog 237 = (hs_k237, 1, 3) := rfl
set_option maxRecDepth 100000 in
theorem hq_M_areSixty (d : Nat) (x0 : Int32) (μ : hs_M)  : hc_M_areSixty (d + 1) x0 μ =
  hs_bI (hc_M_in d (x0.toInt64) (0 : Int64) (60 : Int64) μ) (fun r1 μ1 => hs_rz r1 μ1) := by exact (hs_ev_go hp_M_areSixty [] 9 0 _ [] μ).trans rfl
theorem hp_M_startsWith : hs_prog 238 = (hs_k238, 3, 0) := rfl
set_option maxRecDepth 100000 in
theorem hq_M_startsWith (d : Nat) (x1 : Int32) (x2 : Int32) (μ : hs_M)  : hc_M_startsWith (d + 1) x1 x2 μ =
  hs_bV (hc_M_starts d μ) (fun μ1 => (if hs_in x1 117 then hs_bI (hc_Math_min d (999 : Int32) ((μ1.1 46 0 (x1.toNatClampNeg)) + x2) μ1) (fun r2 μ2 => hs_bI (hc_Math_max d (1 : Int32) r2 μ2) (fun r3 μ3 => (if hs_in x1 117 then some (none, (hs_wI μ3 46 0 (x1.toNatClampNeg) r3)) else none))) else none)) := by exact (hs_ev_go hp_M_startsWith [] 20 0 _ [] μ).trans rfl
noncomputable def he_M_hold_31 (d : Nat) (x1 : Int32) (x2 : Int32) (x3 : Int32) (μ : hs_M) : Option (Option hs_V × hs_M) := hs_ev d 239 31 [some (vR 12 0), some (vI x1), some (vI x2), some (vI x3)] [] μ
theorem hp_M_hold : hs_prog 239 = (hs_k239, 4, 1) := rfl
set_option maxRecDepth 100000 in
theorem hq_M_hold (d : Nat) (x1 : Int32) (μ : hs_M)  : hc_M_hold (d + 1) x1 μ =
  hs_bI (hc_M_areSixty d x1 (hs_wI μ 12 0 0 (0 : Int32))) (fun r1 μ1 => (if r1 = 0 then some (some (vI (-1 : Int32)), μ1) else (if (μ1.1 45 0 17) < 0 then some (some (vI (-3 : Int32)), μ1) else he_M_hold_31 d x1 (μ1.1 45 0 17) (0 : Int32) μ1))) := by exact (hs_ev_go hp_M_hold [31] 45 0 _ [] μ).trans rfl
set_option maxRecDepth 100000 in
theorem hq_M_hold_31 (d : Nat) (x1 : Int32) (x2 : Int32) (x3 : Int32) (μ : hs_M)  : he_M_hold_31 d x1 x2 x3 μ =
  (if (999 : Int32) < x3 then some (some (vI (-2 : Int32)), μ) else hs_bV (hc_M_startsWith d x2 x3 μ) (fun μ1 => hs_bV (hc_M_goesBy d x1 (0 : Int32) μ1) (fun μ2 => (if hs_in x2 8 then (if (μ2.1 57 0 (x2.toNatClampNeg)) = x1 then some (some (vI x3), μ2) else he_M_hold_31 d x1 x2 (x3 + (1 : Int32)) μ2) else none)))) := by exact (hs_ev_go hp_M_hold [31] 45 31 _ [] μ).trans rfl
noncomputable def he_M_bribe_25 (d : Nat)  (μ : hs_M) : Option (Option hs_V × hs_M) := hs_ev d 240 25 [none, none, none, none] [] μ
noncomputable def he_M_bribe_29 (d : Nat) (x1 : Int32) (x2 : Int32) (x3 : Int32) (μ : hs_M) : Option (Option hs_V × hs_M) := hs_ev d 240 29 [some (vR 12 0), some (vI x1), some (vI x2), some (vI x3)] [] μ
theorem hp_M_bribe : hs_prog 240 = (hs_k240, 4, 1) := rfl
set_option maxRecDepth 100000 in
theorem hq_M_bribe (d : Nat) (x1 : Int32) (x2 : Int32) (μ : hs_M)  : hc_M_bribe (d + 1) x1 x2 μ =
  hs_bI (hc_M_isAlive d x1 (hs_wI μ 12 0 0 (0 : Int32))) (fun r1 μ1 => (if r1 = 0 then he_M_bribe_25 d μ1 else hs_bI (hc_M_in d (x2.toInt64) (1 : Int64) (60 : Int64) μ1) (fun r2 μ2 => (if r2 = 0 then he_M_bribe_25 d μ2 else he_M_bribe_29 d x1 x2 (0 : Int32) μ2)))) := by exact (hs_ev_go hp_M_bribe [25, 29] 53 0 _ [] μ).trans rfl
set_option maxRecDepth 100000 in
theorem hq_M_bribe_25 (d : Nat)  (μ : hs_M)  : he_M_bribe_25 d  μ =
  some (some (vI (-1 : Int32)), μ) := by exact (hs_ev_go hp_M_bribe [25, 29] 53 25 _ [] μ).trans rfl
set_option maxRecDepth 100000 in
theorem hq_M_bribe_29 (d : Nat) (x1 : Int32) (x2 : Int32) (x3 : Int32) (μ : hs_M)  : he_M_bribe_29 d x1 x2 x3 μ =
  (if (999 : Int32) < x3 then some (some (vI (-2 : Int32)), μ) else hs_bV (hc_M_startsWith d x1 x3 μ) (fun μ1 => hs_bV (hc_M_goesBy d x2 (0 : Int32) μ1) (fun μ2 => (if (μ2.1 46 0 17) = x1 then (if hs_in x1 8 then hs_bV (hc_M_enters d ((μ2.1 57 0 (x1.toNatClampNeg)).toInt64) (hs_wI μ2 12 0 1 (0 : Int32))) (fun μ3 => some (some (vI x3), μ3)) else none) else he_M_bribe_29 d x1 x2 (x3 + (1 : Int32)) μ2)))) := by exact (hs_ev_go hp_M_bribe [25, 29] 53 29 _ [] μ).trans rfl
noncomputable def he_M_starve_20 (d : Nat)  (μ : hs_M) : Option (Option hs_V × hs_M) := hs_ev d 241 20 [none, none, none, none] [] μ
noncomputable def he_M_starve_24 (d : Nat) (x1 : Int32) (x2 : Int32) (x3 : Int32) (μ : hs_M) : Option (Option hs_V × hs_M) := hs_ev d 241 24 [some (vR 12 0), some (vI x1), some (vI x2), some (vI x3)] [] μ
theorem hp_M_starve : hs_prog 241 = (hs_k241, 4, 1) := rfl
set_option maxRecDepth 100000 in
theorem hq_M_starve (d : Nat) (x1 : Int32) (x2 : Int32) (μ : hs_M)  : hc_M_starve (d + 1) x1 x2 μ =
  hs_bI (hc_M_isAlive d x1 (hs_wI μ 12 0 0 (0 : Int32))) (fun r1 μ1 => (if r1 = 0 then he_M_starve_20 d μ1 else hs_bI (hc_M_areSixty d x2 μ1) (fun r2 μ2 => (if r2 = 0 then he_M_starve_20 d μ2 else he_M_starve_24 d x1 x2 (0 : Int32) μ2)))) := by exact (hs_ev_go hp_M_starve [20, 24] 40 0 _ [] μ).trans rfl
set_option maxRecDepth 100000 in
theorem hq_M_starve_20 (d : Nat)  (μ : hs_M)  : he_M_starve_20 d  μ =
  some (some (vI (-1 : Int32)), μ) := by exact (hs_ev_go hp_M_starve [20, 24] 40 20 _ [] μ).trans rfl
set_option maxRecDepth 100000 in
theorem hq_M_starve_24 (d : Nat) (x1 : Int32) (x2 : Int32) (x3 : Int32) (μ : hs_M)  : he_M_starve_24 d x1 x2 x3 μ =
  (if (999 : Int32) < x3 then some (some (vI (-2 : Int32)), μ) else hs_bV (hc_M_startsWith d x1 (-x3) μ) (fun μ1 => hs_bV (hc_M_goesBy d x2 (0 : Int32) μ1) (fun μ2 => (if hs_in x1 8 then (if (μ2.1 57 0 (x1.toNatClampNeg)) = 0 then some (some (vI x3), μ2) else he_M_starve_24 d x1 x2 (x3 + (1 : Int32)) μ2) else none)))) := by exact (hs_ev_go hp_M_starve [20, 24] 40 24 _ [] μ).trans rfl
noncomputable def he_M_cheapest_14 (d : Nat) (x1 : Int32) (x2 : Int32) (x3 : Int32) (μ : hs_M) : Option (Option hs_V × hs_M) := hs_ev d 242 14 [some (vR 12 0), some (vI x1), some (vI x2), some (vI x3), none] [] μ
noncomputable def he_M_cheapest_36 (d : Nat) (x1 : Int32) (x2 : Int32) (x3 : Int32) (x4 : Int32) (μ : hs_M) : Option (Option hs_V × hs_M) := hs_ev d 242 36 [some (vR 12 0), some (vI x1), some (vI x2), some (vI x3), some (vI x4)] [] μ
noncomputable def he_M_cheapest_81 (d : Nat) (x1 : Int32) (x2 : Int32) (x3 : Int32) (x4 : Int32) (μ : hs_M) : Option (Option hs_V × hs_M) := hs_ev d 242 81 [some (vR 12 0), some (vI x1), some (vI x2), some (vI x3), some (vI x4)] [] μ
theorem hp_M_cheapest : hs_prog 242 = (hs_k242, 5, 1) := rfl
set_option maxRecDepth 100000 in
theorem hq_M_cheapest (d : Nat)  (μ : hs_M)  : hc_M_cheapest (d + 1)  μ =
  he_M_cheapest_14 d (-2 : Int32) (1000 : Int32) (0 : Int32) (hs_wI μ 12 0 0 (0 : Int32)) := by exact (hs_ev_go hp_M_cheapest [14, 36, 81] 67 0 _ [] μ).trans rfl
set_option maxRecDepth 100000 in
theorem hq_M_cheapest_14 (d : Nat) (x1 : Int32) (x2 : Int32) (x3 : Int32) (μ : hs_M)  : he_M_cheapest_14 d x1 x2 x3 μ =
  (if x3 < (μ.1 12 0 3) then hs_bI (hc_M_isAlive d x3 μ) (fun r1 μ1 => (if r1 = 0 then he_M_cheapest_14 d x1 x2 (x3 + (1 : Int32)) μ1 else he_M_cheapest_36 d x1 x2 x3 (0 : Int32) μ1)) else (if x1 < 0 then some (some (vI (-2 : Int32)), μ) else hs_bV (hc_M_enters d (x2.toInt64) (hs_wI μ 12 0 1 (0 : Int32))) (fun μ2 => some (some (vI x1), μ2)))) := by exact (hs_ev_go hp_M_cheapest [14, 36, 81] 67 14 _ [] μ).trans rfl
set_option maxRecDepth 100000 in
theorem hq_M_cheapest_36 (d : Nat) (x1 : Int32) (x2 : Int32) (x3 : Int32) (x4 : Int32) (μ : hs_M)  : he_M_cheapest_36 d x1 x2 x3 x4 μ =
  (if x4 < x2 then hs_bV (hc_M_startsWith d x3 x4 μ) (fun μ1 => hs_bI (hc_M_willing d 46 μ1) (fun r2 μ2 => hs_bV (hc_M_goesNext d (r2 ||| ((1 : Int32) <<< (x3 &&& 31))) μ2) (fun μ3 => (if (μ3.1 46 0 17) = x3 then he_M_cheapest_81 d x3 x4 x3 x4 μ3 else he_M_cheapest_81 d x1 x2 x3 x4 μ3)))) else he_M_cheapest_14 d x1 x2 (x3 + (1 : Int32)) μ) := by exact (hs_ev_go hp_M_cheapest [14, 36, 81] 67 36 _ [] μ).trans rfl
set_option maxRecDepth 100000 in
theorem hq_M_cheapest_81 (d : Nat) (x1 : Int32) (x2 : Int32) (x3 : Int32) (x4 : Int32) (μ : hs_M)  : he_M_cheapest_81 d x1 x2 x3 x4 μ =
  he_M_cheapest_36 d x1 x2 x3 (x4 + (1 : Int32)) μ := by exact (hs_ev_go hp_M_cheapest [14, 36, 81] 67 81 _ [] μ).trans rfl
noncomputable def he_M_weighed_34 (d : Nat)  (μ : hs_M) : Option (Option hs_V × hs_M) := hs_ev d 243 34 [none, none, none] [] μ
theorem hp_M_weighed : hs_prog 243 = (hs_k243, 3, 1) := rfl
set_option maxRecDepth 100000 in
theorem hq_M_weighed (d : Nat) (x1 : Int32) (x2 : Int32) (μ : hs_M)  : hc_M_weighed (d + 1) x1 x2 μ =
  hs_bI (hc_M_isPerson d x1 (hs_wI μ 12 0 0 (0 : Int32))) (fun r1 μ1 => (if r1 = 0 then he_M_weighed_34 d μ1 else hs_bI (hc_M_in d (x2.toInt64) (0 : Int64) (1010 : Int64) μ1) (fun r2 μ2 => (if r2 = 0 then he_M_weighed_34 d μ2 else (if (μ2.1 12 0 34) = (12 : Int32) then he_M_weighed_34 d μ2 else (if hs_in (μ2.1 12 0 34) 12 then (if hs_in (μ2.1 12 0 34) 12 then some (some (vI ((μ2.1 12 0 34) + (1 : Int32))), (hs_wI (hs_wI (hs_wI μ2 59 0 ((μ2.1 12 0 34).toNatClampNeg) x1) 60 0 ((μ2.1 12 0 34).toNatClampNeg) x2) 12 0 34 ((μ2.1 12 0 34) + (1 : Int32)))) else none) else none)))))) := by exact (hs_ev_go hp_M_weighed [34] 43 0 _ [] μ).trans rfl
set_option maxRecDepth 100000 in
theorem hq_M_weighed_34 (d : Nat)  (μ : hs_M)  : he_M_weighed_34 d  μ =
  some (some (vI (-1 : Int32)), μ) := by exact (hs_ev_go hp_M_weighed [34] 43 34 _ [] μ).trans rfl
theorem hp_M_forget : hs_prog 244 = (hs_k244, 1, 1) := rfl
set_option maxRecDepth 100000 in
theorem hq_M_forget (d : Nat)  (μ : hs_M)  : hc_M_forget (d + 1)  μ =
  (if (μ.1 12 0 34) = 0 then some (some (vI (-1 : Int32)), (hs_wI μ 12 0 0 (0 : Int32))) else some (some (vI ((μ.1 12 0 34) - (1 : Int32))), (hs_wI (hs_wI μ 12 0 0 (0 : Int32)) 12 0 34 ((μ.1 12 0 34) - (1 : Int32))))) := by exact (hs_ev_go hp_M_forget [] 20 0 _ [] μ).trans rfl
noncomputable def he_M_canBe_5 (d : Nat) (x1 : Int32) (x2 : Int32) (x3 : Int32) (x4 : Int32) (μ : hs_M) : Option (Option hs_V × hs_M) := hs_ev d 245 5 [some (vR 12 0), some (vI x1), some (vI x2), some (vI x3), some (vI x4)] [] μ
noncomputable def he_M_canBe_44 (d : Nat) (x1 : Int32) (x2 : Int32) (x4 : Int32) (μ : hs_M) : Option (Option hs_V × hs_M) := hs_ev d 245 44 [some (vR 12 0), some (vI x1), some (vI x2), none, some (vI x4)] [] μ
noncomputable def he_M_canBe_48 (d : Nat) (x1 : Int32) (x2 : Int32) (x4 : Int32) (μ : hs_M) : Option (Option hs_V × hs_M) := hs_ev d 245 48 [some (vR 12 0), some (vI x1), some (vI x2), none, some (vI x4)] [] μ
theorem hp_M_canBe : hs_prog 245 = (hs_k245, 5, 3) := rfl
set_option maxRecDepth 100000 in
theorem hq_M_canBe (d : Nat) (x1 : Int32) (x2 : Int32) (μ : hs_M)  : hc_M_canBe (d + 1) x1 x2 μ =
  he_M_canBe_5 d x1 x2 (1 : Int32) (0 : Int32) μ := by exact (hs_ev_go hp_M_canBe [5, 44, 48] 35 0 _ [] μ).trans rfl
set_option maxRecDepth 100000 in
theorem hq_M_canBe_5 (d : Nat) (x1 : Int32) (x2 : Int32) (x3 : Int32) (x4 : Int32) (μ : hs_M)  : he_M_canBe_5 d x1 x2 x3 x4 μ =
  (if x4 < (μ.1 12 0 34) then (if x3 = 0 then he_M_canBe_48 d x1 x2 x4 μ else (if hs_in x4 12 then (if (μ.1 59 0 (x4.toNatClampNeg)) = x1 then (if hs_in x4 12 then hs_bI (hc_M_shows d x2 μ) (fun r1 μ1 => (if (μ.1 60 0 (x4.toNatClampNeg)) = r1 then he_M_canBe_44 d x1 x2 x4 μ1 else he_M_canBe_48 d x1 x2 x4 μ1)) else none) else he_M_canBe_44 d x1 x2 x4 μ) else none)) else hs_rz x3 μ) := by exact (hs_ev_go hp_M_canBe [5, 44, 48] 35 5 _ [] μ).trans rfl
set_option maxRecDepth 100000 in
theorem hq_M_canBe_44 (d : Nat) (x1 : Int32) (x2 : Int32) (x4 : Int32) (μ : hs_M)  : he_M_canBe_44 d x1 x2 x4 μ =
  he_M_canBe_5 d x1 x2 (1 : Int32) (x4 + (1 : Int32)) μ := by exact (hs_ev_go hp_M_canBe [5, 44, 48] 35 44 _ [] μ).trans rfl
set_option maxRecDepth 100000 in
theorem hq_M_canBe_48 (d : Nat) (x1 : Int32) (x2 : Int32) (x4 : Int32) (μ : hs_M)  : he_M_canBe_48 d x1 x2 x4 μ =
  he_M_canBe_5 d x1 x2 (0 : Int32) (x4 + (1 : Int32)) μ := by exact (hs_ev_go hp_M_canBe [5, 44, 48] 35 48 _ [] μ).trans rfl
