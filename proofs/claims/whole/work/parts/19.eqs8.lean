/-! ===== the equations of the methods, 8 ===== -/
noncomputable def he_M_weightsOf_11 (d : Nat) (x1 : Int32) (x2 : Int32) (x3 : Int32) (x4 : Int32) (x5 : Int32) (x6 : Int32) (μ : hs_M) : Option (Option hs_V × hs_M) := hs_ev d 246 11 [some (vR 12 0), some (vI x1), some (vI x2), some (vI x3), some (vI x4), some (vI x5), some (vI x6)] [] μ
noncomputable def he_M_weightsOf_49 (d : Nat) (x1 : Int32) (x2 : Int32) (x3 : Int32) (x4 : Int32) (x5 : Int32) (x6 : Int32) (μ : hs_M) : Option (Option hs_V × hs_M) := hs_ev d 246 49 [some (vR 12 0), some (vI x1), some (vI x2), some (vI x3), some (vI x4), some (vI x5), some (vI x6)] [] μ
noncomputable def he_M_weightsOf_68 (d : Nat) (x3 : Int32) (μ : hs_M) : Option (Option hs_V × hs_M) := hs_ev d 246 68 [none, none, none, some (vI x3), none, none, none] [] μ
theorem hp_M_weightsOf : hs_prog 246 = (hs_k246, 7, 1) := rfl
set_option maxRecDepth 100000 in
theorem hq_M_weightsOf (d : Nat) (x1 : Int32) (x2 : Int32) (μ : hs_M)  : hc_M_weightsOf (d + 1) x1 x2 μ =
  he_M_weightsOf_11 d x1 x2 (0 : Int32) (0 : Int32) (0 : Int32) (1 : Int32) μ := by exact (hs_ev_go hp_M_weightsOf [11, 49, 68] 39 0 _ [] μ).trans rfl
set_option maxRecDepth 100000 in
theorem hq_M_weightsOf_11 (d : Nat) (x1 : Int32) (x2 : Int32) (x3 : Int32) (x4 : Int32) (x5 : Int32) (x6 : Int32) (μ : hs_M)  : he_M_weightsOf_11 d x1 x2 x3 x4 x5 x6 μ =
  (if (999 : Int32) < x6 then (if x2 = 0 then he_M_weightsOf_68 d x3 μ else hs_bV (hc_M_tellsSpan d x3 x4 x5 μ) (fun μ1 => he_M_weightsOf_68 d x3 μ1)) else hs_bI (hc_M_canBe d x1 x6 μ) (fun r2 μ2 => (if r2 = 0 then he_M_weightsOf_49 d x1 x2 x3 x4 x5 x6 μ2 else (if x3 = 0 then he_M_weightsOf_49 d x1 x2 (x3 + (1 : Int32)) x6 x6 x6 μ2 else he_M_weightsOf_49 d x1 x2 (x3 + (1 : Int32)) x4 x6 x6 μ2)))) := by exact (hs_ev_go hp_M_weightsOf [11, 49, 68] 39 11 _ [] μ).trans rfl
set_option maxRecDepth 100000 in
theorem hq_M_weightsOf_49 (d : Nat) (x1 : Int32) (x2 : Int32) (x3 : Int32) (x4 : Int32) (x5 : Int32) (x6 : Int32) (μ : hs_M)  : he_M_weightsOf_49 d x1 x2 x3 x4 x5 x6 μ =
  he_M_weightsOf_11 d x1 x2 x3 x4 x5 (x6 + (1 : Int32)) μ := by exact (hs_ev_go hp_M_weightsOf [11, 49, 68] 39 49 _ [] μ).trans rfl
set_option maxRecDepth 100000 in
theorem hq_M_weightsOf_68 (d : Nat) (x3 : Int32) (μ : hs_M)  : he_M_weightsOf_68 d x3 μ =
  some (some (vI x3), μ) := by exact (hs_ev_go hp_M_weightsOf [11, 49, 68] 39 68 _ [] μ).trans rfl
noncomputable def he_M_tellsSpan_21 (d : Nat)  (μ : hs_M) : Option (Option hs_V × hs_M) := hs_ev d 247 21 [none, none, none, none] [] μ
theorem hp_M_tellsSpan : hs_prog 247 = (hs_k247, 4, 0) := rfl
set_option maxRecDepth 100000 in
theorem hq_M_tellsSpan (d : Nat) (x1 : Int32) (x2 : Int32) (x3 : Int32) (μ : hs_M)  : hc_M_tellsSpan (d + 1) x1 x2 x3 μ =
  (if 0 < x1 then hs_bV (hc_M_enters d (x2.toInt64) (hs_wI μ 12 0 1 (0 : Int32))) (fun μ1 => hs_bV (hc_M_enters d (x3.toInt64) μ1) (fun μ2 => he_M_tellsSpan_21 d μ2)) else he_M_tellsSpan_21 d (hs_wI μ 12 0 1 (0 : Int32))) := by exact (hs_ev_go hp_M_tellsSpan [21] 17 0 _ [] μ).trans rfl
set_option maxRecDepth 100000 in
theorem hq_M_tellsSpan_21 (d : Nat)  (μ : hs_M)  : he_M_tellsSpan_21 d  μ =
  some (none, μ) := by exact (hs_ev_go hp_M_tellsSpan [21] 17 21 _ [] μ).trans rfl
noncomputable def he_M_grains_14 (d : Nat) (x1 : Int32) (x2 : Int32) (x3 : Int32) (μ : hs_M) : Option (Option hs_V × hs_M) := hs_ev d 248 14 [some (vR 12 0), some (vI x1), some (vI x2), some (vI x3), none, none] [] μ
noncomputable def he_M_grains_31 (d : Nat) (x1 : Int32) (x2 : Int32) (x3 : Int32) (x4 : Int32) (x5 : Int32) (μ : hs_M) : Option (Option hs_V × hs_M) := hs_ev d 248 31 [some (vR 12 0), some (vI x1), some (vI x2), some (vI x3), some (vI x4), some (vI x5)] [] μ
noncomputable def he_M_grains_59 (d : Nat) (x1 : Int32) (x2 : Int32) (x3 : Int32) (x5 : Int32) (μ : hs_M) : Option (Option hs_V × hs_M) := hs_ev d 248 59 [some (vR 12 0), some (vI x1), some (vI x2), some (vI x3), none, some (vI x5)] [] μ
theorem hp_M_grains : hs_prog 248 = (hs_k248, 6, 1) := rfl
set_option maxRecDepth 100000 in
theorem hq_M_grains (d : Nat)  (μ : hs_M)  : hc_M_grains (d + 1)  μ =
  he_M_grains_14 d (μ.1 12 0 8) (0 : Int32) (1 : Int32) (hs_wI μ 12 0 0 (0 : Int32)) := by exact (hs_ev_go hp_M_grains [14, 31, 59] 57 0 _ [] μ).trans rfl
set_option maxRecDepth 100000 in
theorem hq_M_grains_14 (d : Nat) (x1 : Int32) (x2 : Int32) (x3 : Int32) (μ : hs_M)  : he_M_grains_14 d x1 x2 x3 μ =
  (if (9 : Int32) < x3 then some (some (vI x2), (hs_wI μ 12 0 8 x1)) else he_M_grains_31 d x1 x2 x3 (1 : Int32) (0 : Int32) (hs_wI μ 12 0 8 x3)) := by exact (hs_ev_go hp_M_grains [14, 31, 59] 57 14 _ [] μ).trans rfl
set_option maxRecDepth 100000 in
theorem hq_M_grains_31 (d : Nat) (x1 : Int32) (x2 : Int32) (x3 : Int32) (x4 : Int32) (x5 : Int32) (μ : hs_M)  : he_M_grains_31 d x1 x2 x3 x4 x5 μ =
  (if x5 < (μ.1 12 0 3) then (if x4 = 0 then he_M_grains_59 d x1 x2 x3 x5 μ else hs_bI (hc_M_weightsOf d x5 (0 : Int32) μ) (fun r1 μ1 => (if 0 < r1 then he_M_grains_31 d x1 x2 x3 (1 : Int32) (x5 + (1 : Int32)) μ1 else he_M_grains_59 d x1 x2 x3 x5 μ1))) else (if x4 = 0 then he_M_grains_14 d x1 (x2 ||| (0 : Int32)) (x3 + (1 : Int32)) μ else he_M_grains_14 d x1 (x2 ||| ((1 : Int32) <<< (x3 &&& 31))) (x3 + (1 : Int32)) μ)) := by exact (hs_ev_go hp_M_grains [14, 31, 59] 57 31 _ [] μ).trans rfl
set_option maxRecDepth 100000 in
theorem hq_M_grains_59 (d : Nat) (x1 : Int32) (x2 : Int32) (x3 : Int32) (x5 : Int32) (μ : hs_M)  : he_M_grains_59 d x1 x2 x3 x5 μ =
  he_M_grains_31 d x1 x2 x3 (0 : Int32) (x5 + (1 : Int32)) μ := by exact (hs_ev_go hp_M_grains [14, 31, 59] 57 59 _ [] μ).trans rfl
theorem hp_M_span : hs_prog 249 = (hs_k249, 2, 1) := rfl
set_option maxRecDepth 100000 in
theorem hq_M_span (d : Nat) (x1 : Int32) (μ : hs_M)  : hc_M_span (d + 1) x1 μ =
  hs_bI (hc_M_isPerson d x1 (hs_wI μ 12 0 0 (0 : Int32))) (fun r1 μ1 => (if r1 = 0 then some (some (vI (-1 : Int32)), μ1) else hs_bI (hc_M_weightsOf d x1 (1 : Int32) μ1) (fun r2 μ2 => some (some (vI r2), μ2)))) := by exact (hs_ev_go hp_M_span [] 17 0 _ [] μ).trans rfl
noncomputable def he_M_wrong_4 (d : Nat) (x1 : Int32) (x2 : Int32) (μ : hs_M) : Option (Option hs_V × hs_M) := hs_ev d 250 4 [some (vR 12 0), some (vI x1), some (vI x2)] [] μ
theorem hp_M_wrong : hs_prog 250 = (hs_k250, 3, 1) := rfl
set_option maxRecDepth 100000 in
theorem hq_M_wrong (d : Nat)  (μ : hs_M)  : hc_M_wrong (d + 1)  μ =
  he_M_wrong_4 d (0 : Int32) (0 : Int32) μ := by exact (hs_ev_go hp_M_wrong [4] 31 0 _ [] μ).trans rfl
set_option maxRecDepth 100000 in
theorem hq_M_wrong_4 (d : Nat) (x1 : Int32) (x2 : Int32) (μ : hs_M)  : he_M_wrong_4 d x1 x2 μ =
  (if x2 < (μ.1 12 0 3) then (if hs_in x2 117 then hs_bI (hc_M_canBe d x2 (μ.1 45 0 (x2.toNatClampNeg)) μ) (fun r1 μ1 => (if r1 = 0 then he_M_wrong_4 d (x1 ||| ((1 : Int32) <<< (x2 &&& 31))) (x2 + (1 : Int32)) μ1 else he_M_wrong_4 d (x1 ||| (0 : Int32)) (x2 + (1 : Int32)) μ1)) else none) else some (some (vI x1), μ)) := by exact (hs_ev_go hp_M_wrong [4] 31 4 _ [] μ).trans rfl
noncomputable def he_M_offs_23 (d : Nat) (x1 : Int32) (x2 : Int32) (x3 : Int32) (x4 : Int32) (μ : hs_M) : Option (Option hs_V × hs_M) := hs_ev d 251 23 [some (vR 12 0), some (vI x1), some (vI x2), some (vI x3), some (vI x4)] [] μ
noncomputable def he_M_offs_61 (d : Nat) (x1 : Int32) (x2 : Int32) (x3 : Int32) (x4 : Int32) (μ : hs_M) : Option (Option hs_V × hs_M) := hs_ev d 251 61 [some (vR 12 0), some (vI x1), some (vI x2), some (vI x3), some (vI x4)] [] μ
theorem hp_M_offs : hs_prog 251 = (hs_k251, 5, 1) := rfl
set_option maxRecDepth 100000 in
theorem hq_M_offs (d : Nat)  (μ : hs_M)  : hc_M_offs (d + 1)  μ =
  he_M_offs_23 d (μ.1 12 0 9) (0 : Int32) (0 : Int32) (0 : Int32) (hs_wI (hs_wI μ 12 0 0 (0 : Int32)) 12 0 9 (-9 : Int32)) := by exact (hs_ev_go hp_M_offs [23, 61] 53 0 _ [] μ).trans rfl
set_option maxRecDepth 100000 in
theorem hq_M_offs_23 (d : Nat) (x1 : Int32) (x2 : Int32) (x3 : Int32) (x4 : Int32) (μ : hs_M)  : he_M_offs_23 d x1 x2 x3 x4 μ =
  (if (9 : Int32) < (μ.1 12 0 9) then hs_bV (hc_M_tellsSpan d x2 x3 x4 (hs_wI μ 12 0 9 x1)) (fun μ1 => some (some (vI x2), μ1)) else hs_bI (hc_M_wrong d μ) (fun r2 μ2 => (if r2 = 0 then (if x2 = 0 then he_M_offs_61 d x1 (x2 + (1 : Int32)) (μ2.1 12 0 9) (μ2.1 12 0 9) μ2 else he_M_offs_61 d x1 (x2 + (1 : Int32)) x3 (μ2.1 12 0 9) μ2) else he_M_offs_61 d x1 x2 x3 x4 μ2))) := by exact (hs_ev_go hp_M_offs [23, 61] 53 23 _ [] μ).trans rfl
set_option maxRecDepth 100000 in
theorem hq_M_offs_61 (d : Nat) (x1 : Int32) (x2 : Int32) (x3 : Int32) (x4 : Int32) (μ : hs_M)  : he_M_offs_61 d x1 x2 x3 x4 μ =
  he_M_offs_23 d x1 x2 x3 x4 (hs_wI μ 12 0 9 ((μ.1 12 0 9) + (1 : Int32))) := by exact (hs_ev_go hp_M_offs [23, 61] 53 61 _ [] μ).trans rfl
noncomputable def he_M_cheats_24 (d : Nat) (x1 : Int32) (x2 : Int32) (x3 : Int32) (x4 : Int32) (μ : hs_M) : Option (Option hs_V × hs_M) := hs_ev d 252 24 [some (vR 12 0), some (vI x1), some (vI x2), some (vI x3), some (vI x4), none] [] μ
noncomputable def he_M_cheats_63 (d : Nat) (x1 : Int32) (x2 : Int32) (x3 : Int32) (x4 : Int32) (μ : hs_M) : Option (Option hs_V × hs_M) := hs_ev d 252 63 [some (vR 12 0), some (vI x1), some (vI x2), some (vI x3), some (vI x4), none] [] μ
theorem hp_M_cheats : hs_prog 252 = (hs_k252, 6, 1) := rfl
set_option maxRecDepth 100000 in
theorem hq_M_cheats (d : Nat)  (μ : hs_M)  : hc_M_cheats (d + 1)  μ =
  he_M_cheats_24 d (μ.1 12 0 9) (9 : Int32) (0 : Int32) (0 : Int32) (hs_wI (hs_wI μ 12 0 0 (0 : Int32)) 12 0 9 (-9 : Int32)) := by exact (hs_ev_go hp_M_cheats [24, 63] 60 0 _ [] μ).trans rfl
set_option maxRecDepth 100000 in
theorem hq_M_cheats_24 (d : Nat) (x1 : Int32) (x2 : Int32) (x3 : Int32) (x4 : Int32) (μ : hs_M)  : he_M_cheats_24 d x1 x2 x3 x4 μ =
  (if (9 : Int32) < (μ.1 12 0 9) then hs_bV (hc_M_enters d (x3.toInt64) (hs_wI (hs_wI μ 12 0 9 x1) 12 0 1 (0 : Int32))) (fun μ1 => hs_bV (hc_M_enters d (x4.toInt64) μ1) (fun μ2 => some (some (vI x2), μ2))) else hs_bI (hc_M_wrong d μ) (fun r3 μ3 => hs_bI (hc_Int_bitCount d r3 μ3) (fun r4 μ4 => (if r4 < x2 then hs_bI (hc_Int_bitCount d r3 μ4) (fun r5 μ5 => he_M_cheats_63 d x1 r5 r3 (μ5.1 12 0 9) μ5) else he_M_cheats_63 d x1 x2 x3 x4 μ4)))) := by exact (hs_ev_go hp_M_cheats [24, 63] 60 24 _ [] μ).trans rfl
set_option maxRecDepth 100000 in
theorem hq_M_cheats_63 (d : Nat) (x1 : Int32) (x2 : Int32) (x3 : Int32) (x4 : Int32) (μ : hs_M)  : he_M_cheats_63 d x1 x2 x3 x4 μ =
  he_M_cheats_24 d x1 x2 x3 x4 (hs_wI μ 12 0 9 ((μ.1 12 0 9) + (1 : Int32))) := by exact (hs_ev_go hp_M_cheats [24, 63] 60 63 _ [] μ).trans rfl
noncomputable def he_M_told_34 (d : Nat)  (μ : hs_M) : Option (Option hs_V × hs_M) := hs_ev d 253 34 [none, none, none] [] μ
theorem hp_M_told : hs_prog 253 = (hs_k253, 3, 1) := rfl
set_option maxRecDepth 100000 in
theorem hq_M_told (d : Nat) (x1 : Int32) (x2 : Int32) (μ : hs_M)  : hc_M_told (d + 1) x1 x2 μ =
  hs_bI (hc_M_isPerson d x1 (hs_wI μ 12 0 0 (0 : Int32))) (fun r1 μ1 => (if r1 = 0 then he_M_told_34 d μ1 else hs_bI (hc_M_in d (x2.toInt64) (1 : Int64) (60 : Int64) μ1) (fun r2 μ2 => (if r2 = 0 then he_M_told_34 d μ2 else (if (μ2.1 12 0 37) = (10 : Int32) then he_M_told_34 d μ2 else (if hs_in (μ2.1 12 0 37) 10 then (if hs_in (μ2.1 12 0 37) 10 then some (some (vI ((μ2.1 12 0 37) + (1 : Int32))), (hs_wI (hs_wI (hs_wI μ2 61 0 ((μ2.1 12 0 37).toNatClampNeg) x1) 62 0 ((μ2.1 12 0 37).toNatClampNeg) x2) 12 0 37 ((μ2.1 12 0 37) + (1 : Int32)))) else none) else none)))))) := by exact (hs_ev_go hp_M_told [34] 43 0 _ [] μ).trans rfl
set_option maxRecDepth 100000 in
theorem hq_M_told_34 (d : Nat)  (μ : hs_M)  : he_M_told_34 d  μ =
  some (some (vI (-1 : Int32)), μ) := by exact (hs_ev_go hp_M_told [34] 43 34 _ [] μ).trans rfl
theorem hp_M_wipe : hs_prog 254 = (hs_k254, 2, 1) := rfl
set_option maxRecDepth 100000 in
theorem hq_M_wipe (d : Nat)  (μ : hs_M)  : hc_M_wipe (d + 1)  μ =
  some (some (vI (μ.1 12 0 37)), (hs_wI (hs_wI μ 12 0 0 (0 : Int32)) 12 0 37 (0 : Int32))) := by exact (hs_ev_go hp_M_wipe [] 14 0 _ [] μ).trans rfl
noncomputable def he_M_isSo_4 (d : Nat) (x1 : Int32) (x2 : Int32) (x3 : Int32) (μ : hs_M) : Option (Option hs_V × hs_M) := hs_ev d 255 4 [some (vR 12 0), some (vI x1), some (vI x2), some (vI x3), none] [] μ
noncomputable def he_M_isSo_31 (d : Nat) (x1 : Int32) (x2 : Int32) (x3 : Int32) (μ : hs_M) : Option (Option hs_V × hs_M) := hs_ev d 255 31 [some (vR 12 0), some (vI x1), some (vI x2), some (vI x3), none] [] μ
noncomputable def he_M_isSo_45 (d : Nat) (x1 : Int32) (x2 : Int32) (x3 : Int32) (x4 : Int32) (μ : hs_M) : Option (Option hs_V × hs_M) := hs_ev d 255 45 [some (vR 12 0), some (vI x1), some (vI x2), some (vI x3), some (vI x4)] [] μ
noncomputable def he_M_isSo_84 (d : Nat) (x1 : Int32) (x2 : Int32) (x3 : Int32) (x4 : Int32) (μ : hs_M) : Option (Option hs_V × hs_M) := hs_ev d 255 84 [some (vR 12 0), some (vI x1), some (vI x2), some (vI x3), some (vI x4)] [] μ
theorem hp_M_isSo : hs_prog 255 = (hs_k255, 5, 3) := rfl
set_option maxRecDepth 100000 in
theorem hq_M_isSo (d : Nat) (x1 : Int32) (μ : hs_M)  : hc_M_isSo (d + 1) x1 μ =
  he_M_isSo_4 d x1 (0 : Int32) (0 : Int32) μ := by exact (hs_ev_go hp_M_isSo [4, 31, 45, 84] 58 0 _ [] μ).trans rfl
set_option maxRecDepth 100000 in
theorem hq_M_isSo_4 (d : Nat) (x1 : Int32) (x2 : Int32) (x3 : Int32) (μ : hs_M)  : he_M_isSo_4 d x1 x2 x3 μ =
  (if x3 < (μ.1 12 0 37) then (if hs_in x3 10 then hs_bI (hc_Math_max d x2 (μ.1 62 0 (x3.toNatClampNeg)) μ) (fun r1 μ1 => he_M_isSo_4 d x1 r1 (x3 + (1 : Int32)) μ1) else none) else he_M_isSo_31 d x1 x2 (1 : Int32) μ) := by exact (hs_ev_go hp_M_isSo [4, 31, 45, 84] 58 4 _ [] μ).trans rfl
set_option maxRecDepth 100000 in
theorem hq_M_isSo_31 (d : Nat) (x1 : Int32) (x2 : Int32) (x3 : Int32) (μ : hs_M)  : he_M_isSo_31 d x1 x2 x3 μ =
  (if x2 < x3 then hs_rz (1 : Int32) μ else hs_bV (hc_M_goesBy d (1 : Int32) x1 μ) (fun μ1 => he_M_isSo_45 d x1 x2 x3 (0 : Int32) μ1)) := by exact (hs_ev_go hp_M_isSo [4, 31, 45, 84] 58 31 _ [] μ).trans rfl
set_option maxRecDepth 100000 in
theorem hq_M_isSo_45 (d : Nat) (x1 : Int32) (x2 : Int32) (x3 : Int32) (x4 : Int32) (μ : hs_M)  : he_M_isSo_45 d x1 x2 x3 x4 μ =
  (if x4 < (μ.1 12 0 37) then (if hs_in x4 10 then (if (μ.1 62 0 (x4.toNatClampNeg)) = x3 then (if hs_in x4 10 then (if (μ.1 46 0 17) = (μ.1 61 0 (x4.toNatClampNeg)) then he_M_isSo_84 d x1 x2 x3 x4 μ else hs_rz (0 : Int32) μ) else none) else he_M_isSo_84 d x1 x2 x3 x4 μ) else none) else he_M_isSo_31 d x1 x2 (x3 + (1 : Int32)) μ) := by exact (hs_ev_go hp_M_isSo [4, 31, 45, 84] 58 45 _ [] μ).trans rfl
set_option maxRecDepth 100000 in
theorem hq_M_isSo_84 (d : Nat) (x1 : Int32) (x2 : Int32) (x3 : Int32) (x4 : Int32) (μ : hs_M)  : he_M_isSo_84 d x1 x2 x3 x4 μ =
  he_M_isSo_45 d x1 x2 x3 (x4 + (1 : Int32)) μ := by exact (hs_ev_go hp_M_isSo [4, 31, 45, 84] 58 84 _ [] μ).trans rfl
noncomputable def he_M_explains_25 (d : Nat) (x1 : Int32) (x2 : Int32) (x3 : Int32) (x4 : Int32) (x5 : Int32) (μ : hs_M) : Option (Option hs_V × hs_M) := hs_ev d 256 25 [some (vR 12 0), some (vI x1), some (vI x2), some (vI x3), some (vI x4), some (vI x5)] [] μ
noncomputable def he_M_explains_71 (d : Nat) (x1 : Int32) (x2 : Int32) (x3 : Int32) (x4 : Int32) (x5 : Int32) (μ : hs_M) : Option (Option hs_V × hs_M) := hs_ev d 256 71 [some (vR 12 0), some (vI x1), some (vI x2), some (vI x3), some (vI x4), some (vI x5)] [] μ
theorem hp_M_explains : hs_prog 256 = (hs_k256, 6, 1) := rfl
set_option maxRecDepth 100000 in
theorem hq_M_explains (d : Nat) (x1 : Int32) (μ : hs_M)  : hc_M_explains (d + 1) x1 μ =
  hs_bI (hc_M_isAlive d x1 (hs_wI μ 12 0 0 (0 : Int32))) (fun r1 μ1 => (if r1 = 0 then some (some (vI (-1 : Int32)), μ1) else he_M_explains_25 d x1 (0 : Int32) (0 : Int32) (0 : Int32) (1 : Int32) μ1)) := by exact (hs_ev_go hp_M_explains [25, 71] 52 0 _ [] μ).trans rfl
set_option maxRecDepth 100000 in
theorem hq_M_explains_25 (d : Nat) (x1 : Int32) (x2 : Int32) (x3 : Int32) (x4 : Int32) (x5 : Int32) (μ : hs_M)  : he_M_explains_25 d x1 x2 x3 x4 x5 μ =
  (if (999 : Int32) < x5 then hs_bV (hc_M_tellsSpan d x2 x3 x4 μ) (fun μ1 => some (some (vI x2), μ1)) else hs_bV (hc_M_starts d μ) (fun μ2 => (if hs_in x1 117 then hs_bI (hc_M_isSo d (0 : Int32) (hs_wI μ2 46 0 (x1.toNatClampNeg) x5)) (fun r3 μ3 => (if r3 = 0 then he_M_explains_71 d x1 x2 x3 x4 x5 μ3 else (if x2 = 0 then he_M_explains_71 d x1 (x2 + (1 : Int32)) x5 x5 x5 μ3 else he_M_explains_71 d x1 (x2 + (1 : Int32)) x3 x5 x5 μ3))) else none))) := by exact (hs_ev_go hp_M_explains [25, 71] 52 25 _ [] μ).trans rfl
set_option maxRecDepth 100000 in
theorem hq_M_explains_71 (d : Nat) (x1 : Int32) (x2 : Int32) (x3 : Int32) (x4 : Int32) (x5 : Int32) (μ : hs_M)  : he_M_explains_71 d x1 x2 x3 x4 x5 μ =
  he_M_explains_25 d x1 x2 x3 x4 (x5 + (1 : Int32)) μ := by exact (hs_ev_go hp_M_explains [25, 71] 52 71 _ [] μ).trans rfl
noncomputable def he_M_absent_9 (d : Nat) (x1 : Int32) (x2 : Int32) (μ : hs_M) : Option (Option hs_V × hs_M) := hs_ev d 257 9 [some (vR 12 0), some (vI x1), some (vI x2)] [] μ
theorem hp_M_absent : hs_prog 257 = (hs_k257, 3, 1) := rfl
set_option maxRecDepth 100000 in
theorem hq_M_absent (d : Nat)  (μ : hs_M)  : hc_M_absent (d + 1)  μ =
  he_M_absent_9 d (0 : Int32) (0 : Int32) (hs_wI μ 12 0 0 (0 : Int32)) := by exact (hs_ev_go hp_M_absent [9] 50 0 _ [] μ).trans rfl
set_option maxRecDepth 100000 in
theorem hq_M_absent_9 (d : Nat) (x1 : Int32) (x2 : Int32) (μ : hs_M)  : he_M_absent_9 d x1 x2 μ =
  (if x2 < (μ.1 12 0 3) then hs_bV (hc_M_starts d μ) (fun μ1 => hs_bI (hc_M_isAlive d x2 μ1) (fun r2 μ2 => (if r2 = 0 then he_M_absent_9 d (x1 ||| (0 : Int32)) (x2 + (1 : Int32)) μ2 else hs_bI (hc_M_isSo d ((1 : Int32) <<< (x2 &&& 31)) μ2) (fun r3 μ3 => (if r3 = 0 then he_M_absent_9 d (x1 ||| (0 : Int32)) (x2 + (1 : Int32)) μ3 else he_M_absent_9 d (x1 ||| ((1 : Int32) <<< (x2 &&& 31))) (x2 + (1 : Int32)) μ3))))) else hs_bV (hc_M_starts d μ) (fun μ4 => hs_bI (hc_M_isSo d (0 : Int32) (hs_wI μ4 12 0 1 (0 : Int32))) (fun r5 μ5 => hs_bI (hc_M_flag d r5 μ5) (fun r6 μ6 => hs_bV (hc_M_enters d (r6.toInt64) μ6) (fun μ7 => some (some (vI x1), μ7)))))) := by exact (hs_ev_go hp_M_absent [9] 50 9 _ [] μ).trans rfl
noncomputable def he_M_twin_22 (d : Nat)  (μ : hs_M) : Option (Option hs_V × hs_M) := hs_ev d 258 22 [none, none, none, none] [] μ
noncomputable def he_M_twin_65 (d : Nat) (x1 : Int32) (x2 : Int32) (x3 : Int32) (μ : hs_M) : Option (Option hs_V × hs_M) := hs_ev d 258 65 [some (vR 12 0), some (vI x1), some (vI x2), some (vI x3)] [] μ
theorem hp_M_twin : hs_prog 258 = (hs_k258, 4, 1) := rfl
set_option maxRecDepth 100000 in
theorem hq_M_twin (d : Nat) (x1 : Int32) (μ : hs_M)  : hc_M_twin (d + 1) x1 μ =
  hs_bI (hc_M_isAlive d x1 (hs_wI μ 12 0 0 (0 : Int32))) (fun r1 μ1 => (if r1 = 0 then he_M_twin_22 d μ1 else (if (μ1.1 12 0 3) = (8 : Int32) then he_M_twin_22 d μ1 else (if hs_in x1 117 then (if hs_in (μ1.1 12 0 3) 117 then (if hs_in x1 8 then (if hs_in (μ1.1 12 0 3) 8 then he_M_twin_65 d x1 (μ1.1 12 0 3) (0 : Int32) (hs_wI (hs_wI (hs_wI μ1 12 0 3 ((μ1.1 12 0 3) + (1 : Int32))) 45 0 ((μ1.1 12 0 3).toNatClampNeg) (μ1.1 45 0 (x1.toNatClampNeg))) 41 0 ((μ1.1 12 0 3).toNatClampNeg) (μ1.1 41 0 (x1.toNatClampNeg))) else none) else none) else none) else none)))) := by exact (hs_ev_go hp_M_twin [22, 65] 87 0 _ [] μ).trans rfl
set_option maxRecDepth 100000 in
theorem hq_M_twin_22 (d : Nat)  (μ : hs_M)  : he_M_twin_22 d  μ =
  some (some (vI (-1 : Int32)), μ) := by exact (hs_ev_go hp_M_twin [22, 65] 87 22 _ [] μ).trans rfl
set_option maxRecDepth 100000 in
theorem hq_M_twin_65 (d : Nat) (x1 : Int32) (x2 : Int32) (x3 : Int32) (μ : hs_M)  : he_M_twin_65 d x1 x2 x3 μ =
  (if x3 < (6 : Int32) then (if hs_in (((6 : Int32) * x1) + x3) 48 then (if hs_in ((48 : Int32) + x3) 54 then he_M_twin_65 d x1 x2 (x3 + (1 : Int32)) (hs_wI μ 50 0 (((48 : Int32) + x3).toNatClampNeg) (μ.1 43 0 ((((6 : Int32) * x1) + x3).toNatClampNeg))) else none) else none) else (if hs_in x1 8 then hs_bV (hc_M_comes d x2 (8 : Int32) (hs_wI μ 51 0 8 (μ.1 44 0 (x1.toNatClampNeg)))) (fun μ1 => (if hs_in x1 8 then (if hs_in x2 8 then some (some (vI x2), (hs_wI (hs_wI μ1 42 0 (x2.toNatClampNeg) (μ1.1 42 0 (x1.toNatClampNeg))) 12 0 28 (0 : Int32))) else none) else none)) else none)) := by exact (hs_ev_go hp_M_twin [22, 65] 87 65 _ [] μ).trans rfl
noncomputable def he_M_oddsOf_2 (d : Nat) (κ1 : Nat) (κ2 : Nat) (x3 : Int32) (μ : hs_M) : Option (Option hs_V × hs_M) := hs_ev d 259 2 [some (vR 12 0), some (vR κ1 0), some (vR κ2 0), some (vI x3), none, none, none, none, none, none] [] μ
noncomputable def he_M_oddsOf_41 (d : Nat) (κ1 : Nat) (κ2 : Nat) (x3 : Int32) (x4 : Int32) (x5 : Int64) (x7 : Int32) (x8 : Int32) (μ : hs_M) : Option (Option hs_V × hs_M) := hs_ev d 259 41 [some (vR 12 0), some (vR κ1 0), some (vR κ2 0), some (vI x3), some (vI x4), some (vL x5), none, some (vI x7), some (vI x8), none] [] μ
noncomputable def he_M_oddsOf_74 (d : Nat) (κ1 : Nat) (κ2 : Nat) (x3 : Int32) (x4 : Int32) (x5 : Int64) (x7 : Int32) (x8 : Int32) (μ : hs_M) : Option (Option hs_V × hs_M) := hs_ev d 259 74 [some (vR 12 0), some (vR κ1 0), some (vR κ2 0), some (vI x3), some (vI x4), some (vL x5), none, some (vI x7), some (vI x8), none] [] μ
noncomputable def he_M_oddsOf_121 (d : Nat) (κ1 : Nat) (κ2 : Nat) (x4 : Int32) (x5 : Int64) (x7 : Int32) (μ : hs_M) : Option (Option hs_V × hs_M) := hs_ev d 259 121 [some (vR 12 0), some (vR κ1 0), some (vR κ2 0), none, some (vI x4), some (vL x5), none, some (vI x7), none, none] [] μ
noncomputable def he_M_oddsOf_132 (d : Nat) (κ1 : Nat) (κ2 : Nat) (x4 : Int32) (x5 : Int64) (x7 : Int32) (x8 : Int32) (x9 : Int32) (μ : hs_M) : Option (Option hs_V × hs_M) := hs_ev d 259 132 [some (vR 12 0), some (vR κ1 0), some (vR κ2 0), none, some (vI x4), some (vL x5), none, some (vI x7), some (vI x8), some (vI x9)] [] μ
noncomputable def he_M_oddsOf_175 (d : Nat) (κ1 : Nat) (κ2 : Nat) (x4 : Int32) (x5 : Int64) (x7 : Int32) (x9 : Int32) (μ : hs_M) : Option (Option hs_V × hs_M) := hs_ev d 259 175 [some (vR 12 0), some (vR κ1 0), some (vR κ2 0), none, some (vI x4), some (vL x5), none, some (vI x7), none, some (vI x9)] [] μ
noncomputable def he_M_oddsOf_180 (d : Nat) (κ1 : Nat) (κ2 : Nat) (x4 : Int32) (x5 : Int64) (x7 : Int32) (x8 : Int32) (x9 : Int32) (μ : hs_M) : Option (Option hs_V × hs_M) := hs_ev d 259 180 [some (vR 12 0), some (vR κ1 0), some (vR κ2 0), none, some (vI x4), some (vL x5), none, some (vI x7), some (vI x8), some (vI x9)] [] μ
theorem hp_M_oddsOf : hs_prog 259 = (hs_k259, 10, 0) := rfl
set_option maxRecDepth 100000 in
theorem hq_M_oddsOf (d : Nat) (κ1 : Nat) (κ2 : Nat) (μ : hs_M) (hκ1 : κ1 = 45 ∨ κ1 = 65) (hκ2 : κ2 = 63 ∨ κ2 = 64) : hc_M_oddsOf (d + 1) κ1 κ2 μ =
  he_M_oddsOf_2 d κ1 κ2 (0 : Int32) μ := by rcases hκ1 with rfl | rfl <;> rcases hκ2 with rfl | rfl <;> exact (hs_ev_go hp_M_oddsOf [2, 41, 74, 121, 132, 175, 180] 146 0 _ [] μ).trans rfl
set_option maxRecDepth 100000 in
theorem hq_M_oddsOf_2 (d : Nat) (κ1 : Nat) (κ2 : Nat) (x3 : Int32) (μ : hs_M) (hκ1 : κ1 = 45 ∨ κ1 = 65) (hκ2 : κ2 = 63 ∨ κ2 = 64) : he_M_oddsOf_2 d κ1 κ2 x3 μ =
  (if (8 : Int32) < x3 then hs_bI (hc_M_willing d κ1 μ) (fun r1 μ1 => he_M_oddsOf_41 d κ1 κ2 r1 (μ1.1 κ1 0 17) (100000000 : Int64) (0 : Int32) (0 : Int32) μ1) else (if hs_in x3 9 then he_M_oddsOf_2 d κ1 κ2 (x3 + (1 : Int32)) (hs_wL μ κ2 0 (x3.toNatClampNeg) (0 : Int64)) else none)) := by rcases hκ1 with rfl | rfl <;> rcases hκ2 with rfl | rfl <;> exact (hs_ev_go hp_M_oddsOf [2, 41, 74, 121, 132, 175, 180] 146 2 _ [] μ).trans rfl
set_option maxRecDepth 100000 in
theorem hq_M_oddsOf_41 (d : Nat) (κ1 : Nat) (κ2 : Nat) (x3 : Int32) (x4 : Int32) (x5 : Int64) (x7 : Int32) (x8 : Int32) (μ : hs_M) (hκ1 : κ1 = 45 ∨ κ1 = 65) (hκ2 : κ2 = 63 ∨ κ2 = 64) : he_M_oddsOf_41 d κ1 κ2 x3 x4 x5 x7 x8 μ =
  (if x8 < (μ.1 12 0 3) then (if x4 < 0 then he_M_oddsOf_74 d κ1 κ2 x3 x4 x5 x7 x8 μ else (if hs_in x8 117 then hs_bI (hc_M_shows d (μ.1 κ1 0 (x8.toNatClampNeg)) μ) (fun r1 μ1 => (if hs_in x4 117 then hs_bI (hc_M_shows d (μ1.1 κ1 0 (x4.toNatClampNeg)) μ1) (fun r2 μ2 => (if r2 < r1 then he_M_oddsOf_74 d κ1 κ2 x3 x4 x5 x7 x8 μ2 else hs_bI (hc_M_has d x3 x8 μ2) (fun r3 μ3 => (if r3 = 0 then he_M_oddsOf_41 d κ1 κ2 x3 x4 x5 (x7 ||| (0 : Int32)) (x8 + (1 : Int32)) μ3 else (if x8 = x4 then he_M_oddsOf_41 d κ1 κ2 x3 x4 x5 (x7 ||| (0 : Int32)) (x8 + (1 : Int32)) μ3 else he_M_oddsOf_41 d κ1 κ2 x3 x4 x5 (x7 ||| (0 : Int32)) (x8 + (1 : Int32)) μ3))))) else none)) else none)) else he_M_oddsOf_121 d κ1 κ2 x4 x5 x7 μ) := by rcases hκ1 with rfl | rfl <;> rcases hκ2 with rfl | rfl <;> exact (hs_ev_go hp_M_oddsOf [2, 41, 74, 121, 132, 175, 180] 146 41 _ [] μ).trans rfl
set_option maxRecDepth 100000 in
theorem hq_M_oddsOf_74 (d : Nat) (κ1 : Nat) (κ2 : Nat) (x3 : Int32) (x4 : Int32) (x5 : Int64) (x7 : Int32) (x8 : Int32) (μ : hs_M) (hκ1 : κ1 = 45 ∨ κ1 = 65) (hκ2 : κ2 = 63 ∨ κ2 = 64) : he_M_oddsOf_74 d κ1 κ2 x3 x4 x5 x7 x8 μ =
  hs_bI (hc_M_has d x3 x8 μ) (fun r1 μ1 => (if r1 = 0 then he_M_oddsOf_41 d κ1 κ2 x3 x4 x5 (x7 ||| (0 : Int32)) (x8 + (1 : Int32)) μ1 else (if x8 = x4 then he_M_oddsOf_41 d κ1 κ2 x3 x4 x5 (x7 ||| (0 : Int32)) (x8 + (1 : Int32)) μ1 else he_M_oddsOf_41 d κ1 κ2 x3 x4 x5 (x7 ||| ((1 : Int32) <<< (x8 &&& 31))) (x8 + (1 : Int32)) μ1))) := by rcases hκ1 with rfl | rfl <;> rcases hκ2 with rfl | rfl <;> exact (hs_ev_go hp_M_oddsOf [2, 41, 74, 121, 132, 175, 180] 146 74 _ [] μ).trans rfl
set_option maxRecDepth 100000 in
theorem hq_M_oddsOf_121 (d : Nat) (κ1 : Nat) (κ2 : Nat) (x4 : Int32) (x5 : Int64) (x7 : Int32) (μ : hs_M) (hκ1 : κ1 = 45 ∨ κ1 = 65) (hκ2 : κ2 = 63 ∨ κ2 = 64) : he_M_oddsOf_121 d κ1 κ2 x4 x5 x7 μ =
  (if x7 = 0 then (if x4 < 0 then some (none, (hs_wL μ κ2 0 8 ((μ.2 κ2 0 8) + x5))) else (if hs_in x4 9 then (if hs_in x4 9 then some (none, (hs_wL μ κ2 0 (x4.toNatClampNeg) ((μ.2 κ2 0 (x4.toNatClampNeg)) + x5))) else none) else none)) else he_M_oddsOf_132 d κ1 κ2 x4 x5 x7 (-1 : Int32) (0 : Int32) μ) := by rcases hκ1 with rfl | rfl <;> rcases hκ2 with rfl | rfl <;> exact (hs_ev_go hp_M_oddsOf [2, 41, 74, 121, 132, 175, 180] 146 121 _ [] μ).trans rfl
set_option maxRecDepth 100000 in
theorem hq_M_oddsOf_132 (d : Nat) (κ1 : Nat) (κ2 : Nat) (x4 : Int32) (x5 : Int64) (x7 : Int32) (x8 : Int32) (x9 : Int32) (μ : hs_M) (hκ1 : κ1 = 45 ∨ κ1 = 65) (hκ2 : κ2 = 63 ∨ κ2 = 64) : he_M_oddsOf_132 d κ1 κ2 x4 x5 x7 x8 x9 μ =
  (if x9 < (μ.1 12 0 3) then hs_bI (hc_M_has d x7 x9 μ) (fun r1 μ1 => (if r1 = 0 then he_M_oddsOf_180 d κ1 κ2 x4 x5 x7 x8 x9 μ1 else (if x8 < 0 then he_M_oddsOf_175 d κ1 κ2 x4 x5 x7 x9 μ1 else (if hs_in x9 117 then hs_bI (hc_M_shows d (μ1.1 κ1 0 (x9.toNatClampNeg)) μ1) (fun r2 μ2 => (if hs_in x8 117 then hs_bI (hc_M_shows d (μ2.1 κ1 0 (x8.toNatClampNeg)) μ2) (fun r3 μ3 => (if r3 < r2 then he_M_oddsOf_175 d κ1 κ2 x4 x5 x7 x9 μ3 else he_M_oddsOf_180 d κ1 κ2 x4 x5 x7 x8 x9 μ3)) else none)) else none)))) else (if hs_in x8 8 then (if hs_in x8 9 then (if hs_in x8 8 then he_M_oddsOf_121 d κ1 κ2 x4 ((x5 / (10 : Int64)) * ((μ.1 42 0 (x8.toNatClampNeg)).toInt64)) (x7 &&& (((1 : Int32) <<< (x8 &&& 31)) ^^^ (-1 : Int32))) (hs_wL μ κ2 0 (x8.toNatClampNeg) ((x5 / (10 : Int64)) * (((10 : Int32) - (μ.1 42 0 (x8.toNatClampNeg))).toInt64))) else none) else none) else none)) := by rcases hκ1 with rfl | rfl <;> rcases hκ2 with rfl | rfl <;> exact (hs_ev_go hp_M_oddsOf [2, 41, 74, 121, 132, 175, 180] 146 132 _ [] μ).trans rfl
set_option maxRecDepth 100000 in
theorem hq_M_oddsOf_175 (d : Nat) (κ1 : Nat) (κ2 : Nat) (x4 : Int32) (x5 : Int64) (x7 : Int32) (x9 : Int32) (μ : hs_M) (hκ1 : κ1 = 45 ∨ κ1 = 65) (hκ2 : κ2 = 63 ∨ κ2 = 64) : he_M_oddsOf_175 d κ1 κ2 x4 x5 x7 x9 μ =
  he_M_oddsOf_132 d κ1 κ2 x4 x5 x7 x9 (x9 + (1 : Int32)) μ := by rcases hκ1 with rfl | rfl <;> rcases hκ2 with rfl | rfl <;> exact (hs_ev_go hp_M_oddsOf [2, 41, 74, 121, 132, 175, 180] 146 175 _ [] μ).trans rfl
set_option maxRecDepth 100000 in
theorem hq_M_oddsOf_180 (d : Nat) (κ1 : Nat) (κ2 : Nat) (x4 : Int32) (x5 : Int64) (x7 : Int32) (x8 : Int32) (x9 : Int32) (μ : hs_M) (hκ1 : κ1 = 45 ∨ κ1 = 65) (hκ2 : κ2 = 63 ∨ κ2 = 64) : he_M_oddsOf_180 d κ1 κ2 x4 x5 x7 x8 x9 μ =
  he_M_oddsOf_132 d κ1 κ2 x4 x5 x7 x8 (x9 + (1 : Int32)) μ := by rcases hκ1 with rfl | rfl <;> rcases hκ2 with rfl | rfl <;> exact (hs_ev_go hp_M_oddsOf [2, 41, 74, 121, 132, 175, 180] 146 180 _ [] μ).trans rfl
noncomputable def he_M_odds_25 (d : Nat)  (μ : hs_M) : Option (Option hs_V × hs_M) := hs_ev d 260 25 [none, none, none, none, none, none] [] μ
noncomputable def he_M_odds_100 (d : Nat) (x1 : Int32) (x3 : Int64) (x5 : Int32) (μ : hs_M) : Option (Option hs_V × hs_M) := hs_ev d 260 100 [some (vR 12 0), some (vI x1), none, some (vL x3), none, some (vI x5)] [] μ
noncomputable def he_M_odds_182 (d : Nat) (x1 : Int32) (x3 : Int64) (x5 : Int32) (μ : hs_M) : Option (Option hs_V × hs_M) := hs_ev d 260 182 [some (vR 12 0), some (vI x1), none, some (vL x3), none, some (vI x5)] [] μ
theorem hp_M_odds : hs_prog 260 = (hs_k260, 6, 1) := rfl
set_option maxRecDepth 100000 in
theorem hq_M_odds (d : Nat) (x1 : Int32) (x2 : Int32) (μ : hs_M)  : hc_M_odds (d + 1) x1 x2 μ =
  hs_bI (hc_M_isPerson d x1 (hs_wI μ 12 0 0 (0 : Int32))) (fun r1 μ1 => (if r1 = 0 then he_M_odds_25 d μ1 else hs_bI (hc_M_in d (x2.toInt64) (0 : Int64) (2 : Int64) μ1) (fun r2 μ2 => (if r2 = 0 then he_M_odds_25 d μ2 else (if x2 = 0 then (if (μ2.1 45 0 17) = x1 then hs_bI (hc_M_flag d (1 : Int32) (hs_wI μ2 12 0 1 (0 : Int32))) (fun r3 μ3 => hs_bV (hc_M_entersFraction d (r3.toInt64) (1 : Int64) μ3) (fun μ4 => some (some (vI (0 : Int32)), μ4))) else hs_bI (hc_M_flag d (0 : Int32) (hs_wI μ2 12 0 1 (0 : Int32))) (fun r5 μ5 => hs_bV (hc_M_entersFraction d (r5.toInt64) (1 : Int64) μ5) (fun μ6 => some (some (vI (0 : Int32)), μ6)))) else hs_bV (hc_M_oddsOf d 45 63 (hs_wI μ2 12 0 1 (0 : Int32))) (fun μ7 => (if x2 = (1 : Int32) then (if hs_in x1 9 then hs_bV (hc_M_entersFraction d (μ7.2 63 0 (x1.toNatClampNeg)) (100000000 : Int64) μ7) (fun μ8 => some (some (vI (0 : Int32)), μ8)) else none) else he_M_odds_100 d x1 (0 : Int64) (0 : Int32) μ7))))))) := by exact (hs_ev_go hp_M_odds [25, 100, 182] 114 0 _ [] μ).trans rfl
set_option maxRecDepth 100000 in
theorem hq_M_odds_25 (d : Nat)  (μ : hs_M)  : he_M_odds_25 d  μ =
  some (some (vI (-1 : Int32)), μ) := by exact (hs_ev_go hp_M_odds [25, 100, 182] 114 25 _ [] μ).trans rfl
set_option maxRecDepth 100000 in
theorem hq_M_odds_100 (d : Nat) (x1 : Int32) (x3 : Int64) (x5 : Int32) (μ : hs_M)  : he_M_odds_100 d x1 x3 x5 μ =
  (if (8 : Int32) < x5 then hs_bV (hc_M_entersFraction d x3 (10000000000000000 : Int64) μ) (fun μ1 => some (some (vI (0 : Int32)), μ1)) else (if hs_in x5 9 then (if 0 < (lg_cmp (μ.2 63 0 (x5.toNatClampNeg)) (0 : Int64)) then hs_bV (hc_M_puts d 65 μ) (fun μ2 => (if x5 = (8 : Int32) then hs_bV (hc_M_goes d 65 (0 : Int32) μ2) (fun μ3 => hs_bV (hc_M_oddsOf d 65 64 μ3) (fun μ4 => (if hs_in x5 9 then (if hs_in x1 9 then he_M_odds_182 d x1 (x3 + ((μ4.2 63 0 (x5.toNatClampNeg)) * (μ4.2 64 0 (x1.toNatClampNeg)))) x5 μ4 else none) else none))) else hs_bV (hc_M_goes d 65 ((1 : Int32) <<< (x5 &&& 31)) μ2) (fun μ5 => hs_bV (hc_M_oddsOf d 65 64 μ5) (fun μ6 => (if hs_in x5 9 then (if hs_in x1 9 then he_M_odds_182 d x1 (x3 + ((μ6.2 63 0 (x5.toNatClampNeg)) * (μ6.2 64 0 (x1.toNatClampNeg)))) x5 μ6 else none) else none))))) else he_M_odds_182 d x1 x3 x5 μ) else none)) := by exact (hs_ev_go hp_M_odds [25, 100, 182] 114 100 _ [] μ).trans rfl
set_option maxRecDepth 100000 in
theorem hq_M_odds_182 (d : Nat) (x1 : Int32) (x3 : Int64) (x5 : Int32) (μ : hs_M)  : he_M_odds_182 d x1 x3 x5 μ =
  he_M_odds_100 d x1 x3 (x5 + (1 : Int32)) μ := by exact (hs_ev_go hp_M_odds [25, 100, 182] 114 182 _ [] μ).trans rfl
noncomputable def he_M_likely_22 (d : Nat) (x1 : Int32) (x2 : Int32) (μ : hs_M) : Option (Option hs_V × hs_M) := hs_ev d 261 22 [some (vR 12 0), some (vI x1), some (vI x2)] [] μ
theorem hp_M_likely : hs_prog 261 = (hs_k261, 3, 1) := rfl
set_option maxRecDepth 100000 in
theorem hq_M_likely (d : Nat)  (μ : hs_M)  : hc_M_likely (d + 1)  μ =
  hs_bV (hc_M_oddsOf d 45 63 (hs_wI μ 12 0 0 (0 : Int32))) (fun μ1 => he_M_likely_22 d (8 : Int32) (0 : Int32) μ1) := by exact (hs_ev_go hp_M_likely [22] 53 0 _ [] μ).trans rfl
set_option maxRecDepth 100000 in
theorem hq_M_likely_22 (d : Nat) (x1 : Int32) (x2 : Int32) (μ : hs_M)  : he_M_likely_22 d x1 x2 μ =
  (if x2 < (μ.1 12 0 3) then (if hs_in x2 9 then (if hs_in x1 9 then (if 0 < (lg_cmp (μ.2 63 0 (x2.toNatClampNeg)) (μ.2 63 0 (x1.toNatClampNeg))) then he_M_likely_22 d x2 (x2 + (1 : Int32)) μ else he_M_likely_22 d x1 (x2 + (1 : Int32)) μ) else none) else none) else (if hs_in x1 9 then hs_bV (hc_M_entersFraction d (μ.2 63 0 (x1.toNatClampNeg)) (100000000 : Int64) (hs_wI μ 12 0 1 (0 : Int32))) (fun μ1 => (if x1 = (8 : Int32) then some (some (vI (-1 : Int32)), μ1) else some (some (vI x1), μ1))) else none)) := by exact (hs_ev_go hp_M_likely [22] 53 22 _ [] μ).trans rfl
noncomputable def he_M_keep_38 (d : Nat) (x1 : Int32) (x2 : Int32) (μ : hs_M) : Option (Option hs_V × hs_M) := hs_ev d 262 38 [some (vR 12 0), some (vI x1), some (vI x2)] [] μ
theorem hp_M_keep : hs_prog 262 = (hs_k262, 3, 3) := rfl
set_option maxRecDepth 100000 in
theorem hq_M_keep (d : Nat) (x1 : Int32) (μ : hs_M)  : hc_M_keep (d + 1) x1 μ =
  hs_bI (hc_M_in d (x1.toInt64) (0 : Int64) (2 : Int64) (hs_wI μ 12 0 0 (0 : Int32))) (fun r1 μ1 => (if r1 = 0 then hs_rz (0 : Int32) μ1 else (if hs_in x1 3 then (if hs_in x1 3 then he_M_keep_38 d x1 (0 : Int32) (hs_wI (hs_wI μ1 66 0 (x1.toNatClampNeg) ((1 : Int32) &&& 1)) 67 0 (x1.toNatClampNeg) (μ1.1 12 0 3)) else none) else none))) := by exact (hs_ev_go hp_M_keep [38] 46 0 _ [] μ).trans rfl
set_option maxRecDepth 100000 in
theorem hq_M_keep_38 (d : Nat) (x1 : Int32) (x2 : Int32) (μ : hs_M)  : he_M_keep_38 d x1 x2 μ =
  (if x2 < (117 : Int32) then (if hs_in x2 117 then (if hs_in (((117 : Int32) * x1) + x2) 351 then he_M_keep_38 d x1 (x2 + (1 : Int32)) (hs_wI μ 68 0 ((((117 : Int32) * x1) + x2).toNatClampNeg) (μ.1 45 0 (x2.toNatClampNeg))) else none) else none) else hs_rz (1 : Int32) μ) := by exact (hs_ev_go hp_M_keep [38] 46 38 _ [] μ).trans rfl
noncomputable def he_M_again_39 (d : Nat)  (μ : hs_M) : Option (Option hs_V × hs_M) := hs_ev d 263 39 [none, none, none] [] μ
noncomputable def he_M_again_43 (d : Nat) (x1 : Int32) (x2 : Int32) (μ : hs_M) : Option (Option hs_V × hs_M) := hs_ev d 263 43 [some (vR 12 0), some (vI x1), some (vI x2)] [] μ
theorem hp_M_again : hs_prog 263 = (hs_k263, 3, 3) := rfl
set_option maxRecDepth 100000 in
theorem hq_M_again (d : Nat) (x1 : Int32) (μ : hs_M)  : hc_M_again (d + 1) x1 μ =
  hs_bI (hc_M_in d (x1.toInt64) (0 : Int64) (2 : Int64) (hs_wI μ 12 0 0 (0 : Int32))) (fun r1 μ1 => (if r1 = 0 then he_M_again_39 d μ1 else (if hs_in x1 3 then (if (μ1.1 66 0 (x1.toNatClampNeg)) = 0 then he_M_again_39 d μ1 else (if hs_in x1 3 then (if (μ1.1 67 0 (x1.toNatClampNeg)) = (μ1.1 12 0 3) then he_M_again_43 d x1 (0 : Int32) μ1 else he_M_again_39 d μ1) else none)) else none))) := by exact (hs_ev_go hp_M_again [39, 43] 50 0 _ [] μ).trans rfl
set_option maxRecDepth 100000 in
theorem hq_M_again_39 (d : Nat)  (μ : hs_M)  : he_M_again_39 d  μ =
  hs_rz (0 : Int32) μ := by exact (hs_ev_go hp_M_again [39, 43] 50 39 _ [] μ).trans rfl
set_option maxRecDepth 100000 in
theorem hq_M_again_43 (d : Nat) (x1 : Int32) (x2 : Int32) (μ : hs_M)  : he_M_again_43 d x1 x2 μ =
  (if x2 < (117 : Int32) then (if hs_in (((117 : Int32) * x1) + x2) 351 then (if hs_in x2 117 then he_M_again_43 d x1 (x2 + (1 : Int32)) (hs_wI μ 45 0 (x2.toNatClampNeg) (μ.1 68 0 ((((117 : Int32) * x1) + x2).toNatClampNeg))) else none) else none) else hs_rz (1 : Int32) (hs_wI μ 12 0 28 (0 : Int32))) := by exact (hs_ev_go hp_M_again [39, 43] 50 43 _ [] μ).trans rfl
noncomputable def he_M_lawsThatHold_4 (d : Nat) (x1 : Int32) (x2 : Int32) (μ : hs_M) : Option (Option hs_V × hs_M) := hs_ev d 264 4 [some (vR 12 0), some (vI x1), some (vI x2)] [] μ
theorem hp_M_lawsThatHold : hs_prog 264 = (hs_k264, 3, 1) := rfl
set_option maxRecDepth 100000 in
theorem hq_M_lawsThatHold (d : Nat)  (μ : hs_M)  : hc_M_lawsThatHold (d + 1)  μ =
  he_M_lawsThatHold_4 d (0 : Int32) (0 : Int32) μ := by exact (hs_ev_go hp_M_lawsThatHold [4] 32 0 _ [] μ).trans rfl
set_option maxRecDepth 100000 in
theorem hq_M_lawsThatHold_4 (d : Nat) (x1 : Int32) (x2 : Int32) (μ : hs_M)  : he_M_lawsThatHold_4 d x1 x2 μ =
  (if x2 < (μ.1 45 0 20) then (if hs_in ((45 : Int32) + x2) 117 then (if (μ.1 45 0 (((45 : Int32) + x2).toNatClampNeg)) < 0 then he_M_lawsThatHold_4 d (x1 ||| ((1 : Int32) <<< (x2 &&& 31))) (x2 + (1 : Int32)) μ else he_M_lawsThatHold_4 d (x1 ||| (0 : Int32)) (x2 + (1 : Int32)) μ) else none) else some (some (vI x1), μ)) := by exact (hs_ev_go hp_M_lawsThatHold [4] 32 4 _ [] μ).trans rfl
theorem hp_M_count : hs_prog 265 = (hs_k265, 2, 1) := rfl
set_option maxRecDepth 100000 in
theorem hq_M_count (d : Nat) (x1 : Int32) (μ : hs_M)  : hc_M_count (d + 1) x1 μ =
  (if x1 = (0 : Int32) then some (some (vI (μ.1 12 0 3)), (hs_wI μ 12 0 0 (0 : Int32))) else (if x1 = (1 : Int32) then some (some (vI (μ.1 45 0 19)), (hs_wI μ 12 0 0 (0 : Int32))) else (if x1 = (2 : Int32) then some (some (vI (μ.1 45 0 17)), (hs_wI μ 12 0 0 (0 : Int32))) else (if x1 = (3 : Int32) then (if (μ.1 45 0 17) < 0 then some (some (vI (0 : Int32)), (hs_wI μ 12 0 0 (0 : Int32))) else some (some (vI (μ.1 45 0 18)), (hs_wI μ 12 0 0 (0 : Int32)))) else (if x1 = (4 : Int32) then some (some (vI (μ.1 45 0 20)), (hs_wI μ 12 0 0 (0 : Int32))) else (if x1 = (5 : Int32) then hs_bI (hc_M_lawsThatHold d (hs_wI μ 12 0 0 (0 : Int32))) (fun r1 μ1 => some (some (vI r1), μ1)) else (if x1 = (6 : Int32) then some (some (vI (μ.1 45 0 16)), (hs_wI μ 12 0 0 (0 : Int32))) else (if x1 = (7 : Int32) then some (some (vI (μ.1 12 0 28)), (hs_wI μ 12 0 0 (0 : Int32))) else (if x1 = (8 : Int32) then some (some (vI (μ.1 12 0 34)), (hs_wI μ 12 0 0 (0 : Int32))) else (if x1 = (9 : Int32) then some (some (vI (μ.1 12 0 37)), (hs_wI μ 12 0 0 (0 : Int32))) else (if x1 = (10 : Int32) then some (some (vI (μ.1 12 0 1)), (hs_wI μ 12 0 0 (0 : Int32))) else (if x1 = (11 : Int32) then some (some (vI (μ.1 12 0 13)), (hs_wI μ 12 0 0 (0 : Int32))) else (if x1 = (12 : Int32) then some (some (vI (μ.1 12 0 8)), (hs_wI μ 12 0 0 (0 : Int32))) else (if x1 = (13 : Int32) then some (some (vI (μ.1 12 0 9)), (hs_wI μ 12 0 0 (0 : Int32))) else some (some (vI (-100 : Int32)), (hs_wI μ 12 0 0 (0 : Int32))))))))))))))))) := by exact (hs_ev_go hp_M_count [] 69 0 _ [] μ).trans rfl
theorem hp_M_row : hs_prog 266 = (hs_k266, 2, 2) := rfl
set_option maxRecDepth 100000 in
theorem hq_M_row (d : Nat) (x1 : Int32) (μ : hs_M)  : hc_M_row (d + 1) x1 μ =
  hs_bI (hc_M_in d (x1.toInt64) (0 : Int64) (((μ.1 12 0 1) - (1 : Int32)).toInt64) (hs_wI μ 12 0 0 (0 : Int32))) (fun r1 μ1 => (if r1 = 0 then some (some (vL (0 : Int64)), (hs_wI μ1 12 0 0 (1 : Int32))) else (if hs_in x1 24 then some (some (vL (μ1.2 40 0 (x1.toNatClampNeg))), μ1) else none))) := by exact (hs_ev_go hp_M_row [] 26 0 _ [] μ).trans rfl
