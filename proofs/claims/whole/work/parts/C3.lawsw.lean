/-! ===== the law: the switch ===== -/
set_option maxRecDepth 100000 in
theorem hl_sw_0 (x : Int32) (μ : hs_M) : hl_go 200 [] 1 39 (hl_L x) [vI (nI 0)] μ = some ((252, hl_L x, []), μ) := rfl
set_option maxRecDepth 100000 in
theorem hl_sw_1 (x : Int32) (μ : hs_M) : hl_go 200 [] 1 39 (hl_L x) [vI (nI 1)] μ = some ((277, hl_L x, []), μ) := rfl
set_option maxRecDepth 100000 in
theorem hl_sw_2 (x : Int32) (μ : hs_M) : hl_go 200 [] 1 39 (hl_L x) [vI (nI 2)] μ = some ((302, hl_L x, []), μ) := rfl
set_option maxRecDepth 100000 in
theorem hl_sw_3 (x : Int32) (μ : hs_M) : hl_go 200 [] 1 39 (hl_L x) [vI (nI 3)] μ = some ((315, hl_L x, []), μ) := rfl
set_option maxRecDepth 100000 in
theorem hl_sw_4 (x : Int32) (μ : hs_M) : hl_go 200 [] 1 39 (hl_L x) [vI (nI 4)] μ = some ((328, hl_L x, []), μ) := rfl
set_option maxRecDepth 100000 in
theorem hl_sw_5 (x : Int32) (μ : hs_M) : hl_go 200 [] 1 39 (hl_L x) [vI (nI 5)] μ = some ((353, hl_L x, []), μ) := rfl
set_option maxRecDepth 100000 in
theorem hl_sw_6 (x : Int32) (μ : hs_M) : hl_go 200 [] 1 39 (hl_L x) [vI (nI 6)] μ = some ((421, hl_L x, []), μ) := rfl
set_option maxRecDepth 100000 in
theorem hl_sw_7 (x : Int32) (μ : hs_M) : hl_go 200 [] 1 39 (hl_L x) [vI (nI 7)] μ = some ((489, hl_L x, []), μ) := rfl
set_option maxRecDepth 100000 in
theorem hl_sw_8 (x : Int32) (μ : hs_M) : hl_go 200 [] 1 39 (hl_L x) [vI (nI 8)] μ = some ((538, hl_L x, []), μ) := rfl
set_option maxRecDepth 100000 in
theorem hl_sw_9 (x : Int32) (μ : hs_M) : hl_go 200 [] 1 39 (hl_L x) [vI (nI 9)] μ = some ((575, hl_L x, []), μ) := rfl
set_option maxRecDepth 100000 in
theorem hl_sw_10 (x : Int32) (μ : hs_M) : hl_go 200 [] 1 39 (hl_L x) [vI (nI 10)] μ = some ((636, hl_L x, []), μ) := rfl
set_option maxRecDepth 100000 in
theorem hl_sw_11 (x : Int32) (μ : hs_M) : hl_go 200 [] 1 39 (hl_L x) [vI (nI 11)] μ = some ((661, hl_L x, []), μ) := rfl
set_option maxRecDepth 100000 in
theorem hl_sw_12 (x : Int32) (μ : hs_M) : hl_go 200 [] 1 39 (hl_L x) [vI (nI 12)] μ = some ((686, hl_L x, []), μ) := rfl
set_option maxRecDepth 100000 in
theorem hl_sw_13 (x : Int32) (μ : hs_M) : hl_go 200 [] 1 39 (hl_L x) [vI (nI 13)] μ = some ((699, hl_L x, []), μ) := rfl
set_option maxRecDepth 100000 in
theorem hl_sw_14 (x : Int32) (μ : hs_M) : hl_go 200 [] 1 39 (hl_L x) [vI (nI 14)] μ = some ((712, hl_L x, []), μ) := rfl
set_option maxRecDepth 100000 in
theorem hl_sw_15 (x : Int32) (μ : hs_M) : hl_go 200 [] 1 39 (hl_L x) [vI (nI 15)] μ = some ((780, hl_L x, []), μ) := rfl
set_option maxRecDepth 100000 in
theorem hl_sw_16 (x : Int32) (μ : hs_M) : hl_go 200 [] 1 39 (hl_L x) [vI (nI 16)] μ = some ((817, hl_L x, []), μ) := rfl
set_option maxRecDepth 100000 in
theorem hl_sw_17 (x : Int32) (μ : hs_M) : hl_go 200 [] 1 39 (hl_L x) [vI (nI 17)] μ = some ((854, hl_L x, []), μ) := rfl
set_option maxRecDepth 100000 in
theorem hl_sw_18 (x : Int32) (μ : hs_M) : hl_go 200 [] 1 39 (hl_L x) [vI (nI 18)] μ = some ((879, hl_L x, []), μ) := rfl
set_option maxRecDepth 100000 in
theorem hl_sw_19 (x : Int32) (μ : hs_M) : hl_go 200 [] 1 39 (hl_L x) [vI (nI 19)] μ = some ((892, hl_L x, []), μ) := rfl
set_option maxRecDepth 100000 in
theorem hl_sw_20 (x : Int32) (μ : hs_M) : hl_go 200 [] 1 39 (hl_L x) [vI (nI 20)] μ = some ((917, hl_L x, []), μ) := rfl
set_option maxRecDepth 100000 in
theorem hl_sw_21 (x : Int32) (μ : hs_M) : hl_go 200 [] 1 39 (hl_L x) [vI (nI 21)] μ = some ((954, hl_L x, []), μ) := rfl
set_option maxRecDepth 100000 in
theorem hl_sw_22 (x : Int32) (μ : hs_M) : hl_go 200 [] 1 39 (hl_L x) [vI (nI 22)] μ = some ((979, hl_L x, []), μ) := rfl
set_option maxRecDepth 100000 in
theorem hl_sw_23 (x : Int32) (μ : hs_M) : hl_go 200 [] 1 39 (hl_L x) [vI (nI 23)] μ = some ((1004, hl_L x, []), μ) := rfl
set_option maxRecDepth 100000 in
theorem hl_sw_24 (x : Int32) (μ : hs_M) : hl_go 200 [] 1 39 (hl_L x) [vI (nI 24)] μ = some ((1029, hl_L x, []), μ) := rfl
set_option maxRecDepth 100000 in
theorem hl_sw_25 (x : Int32) (μ : hs_M) : hl_go 200 [] 1 39 (hl_L x) [vI (nI 25)] μ = some ((1066, hl_L x, []), μ) := rfl
set_option maxRecDepth 100000 in
theorem hl_sw_26 (x : Int32) (μ : hs_M) : hl_go 200 [] 1 39 (hl_L x) [vI (nI 26)] μ = some ((1103, hl_L x, []), μ) := rfl
set_option maxRecDepth 100000 in
theorem hl_sw_27 (x : Int32) (μ : hs_M) : hl_go 200 [] 1 39 (hl_L x) [vI (nI 27)] μ = some ((1128, hl_L x, []), μ) := rfl
set_option maxRecDepth 100000 in
theorem hl_sw_28 (x : Int32) (μ : hs_M) : hl_go 200 [] 1 39 (hl_L x) [vI (nI 28)] μ = some ((1165, hl_L x, []), μ) := rfl
set_option maxRecDepth 100000 in
theorem hl_sw_29 (x : Int32) (μ : hs_M) : hl_go 200 [] 1 39 (hl_L x) [vI (nI 29)] μ = some ((1233, hl_L x, []), μ) := rfl
set_option maxRecDepth 100000 in
theorem hl_sw_30 (x : Int32) (μ : hs_M) : hl_go 200 [] 1 39 (hl_L x) [vI (nI 30)] μ = some ((1258, hl_L x, []), μ) := rfl
set_option maxRecDepth 100000 in
theorem hl_sw_31 (x : Int32) (μ : hs_M) : hl_go 200 [] 1 39 (hl_L x) [vI (nI 31)] μ = some ((1295, hl_L x, []), μ) := rfl
set_option maxRecDepth 100000 in
theorem hl_sw_32 (x : Int32) (μ : hs_M) : hl_go 200 [] 1 39 (hl_L x) [vI (nI 32)] μ = some ((1332, hl_L x, []), μ) := rfl
set_option maxRecDepth 100000 in
theorem hl_sw_33 (x : Int32) (μ : hs_M) : hl_go 200 [] 1 39 (hl_L x) [vI (nI 33)] μ = some ((1345, hl_L x, []), μ) := rfl
set_option maxRecDepth 100000 in
theorem hl_sw_34 (x : Int32) (μ : hs_M) : hl_go 200 [] 1 39 (hl_L x) [vI (nI 34)] μ = some ((1382, hl_L x, []), μ) := rfl
set_option maxRecDepth 100000 in
theorem hl_sw_35 (x : Int32) (μ : hs_M) : hl_go 200 [] 1 39 (hl_L x) [vI (nI 35)] μ = some ((1395, hl_L x, []), μ) := rfl
set_option maxRecDepth 100000 in
theorem hl_sw_36 (x : Int32) (μ : hs_M) : hl_go 200 [] 1 39 (hl_L x) [vI (nI 36)] μ = some ((1408, hl_L x, []), μ) := rfl
set_option maxRecDepth 100000 in
theorem hl_sw_37 (x : Int32) (μ : hs_M) : hl_go 200 [] 1 39 (hl_L x) [vI (nI 37)] μ = some ((1433, hl_L x, []), μ) := rfl
set_option maxRecDepth 100000 in
theorem hl_sw_38 (x : Int32) (μ : hs_M) : hl_go 200 [] 1 39 (hl_L x) [vI (nI 38)] μ = some ((1446, hl_L x, []), μ) := rfl
set_option maxRecDepth 100000 in
theorem hl_sw_39 (x : Int32) (μ : hs_M) : hl_go 200 [] 1 39 (hl_L x) [vI (nI 39)] μ = some ((1459, hl_L x, []), μ) := rfl
set_option maxRecDepth 100000 in
theorem hl_sw_40 (x : Int32) (μ : hs_M) : hl_go 200 [] 1 39 (hl_L x) [vI (nI 40)] μ = some ((1496, hl_L x, []), μ) := rfl
set_option maxRecDepth 100000 in
theorem hl_sw_41 (x : Int32) (μ : hs_M) : hl_go 200 [] 1 39 (hl_L x) [vI (nI 41)] μ = some ((1509, hl_L x, []), μ) := rfl
set_option maxRecDepth 100000 in
theorem hl_sw_42 (x : Int32) (μ : hs_M) : hl_go 200 [] 1 39 (hl_L x) [vI (nI 42)] μ = some ((1534, hl_L x, []), μ) := rfl
set_option maxRecDepth 100000 in
theorem hl_sw_43 (x : Int32) (μ : hs_M) : hl_go 200 [] 1 39 (hl_L x) [vI (nI 43)] μ = some ((1547, hl_L x, []), μ) := rfl
set_option maxRecDepth 100000 in
theorem hl_sw_44 (x : Int32) (μ : hs_M) : hl_go 200 [] 1 39 (hl_L x) [vI (nI 44)] μ = some ((1572, hl_L x, []), μ) := rfl
set_option maxRecDepth 100000 in
theorem hl_sw_45 (x : Int32) (μ : hs_M) : hl_go 200 [] 1 39 (hl_L x) [vI (nI 45)] μ = some ((1609, hl_L x, []), μ) := rfl
set_option maxRecDepth 100000 in
theorem hl_sw_46 (x : Int32) (μ : hs_M) : hl_go 200 [] 1 39 (hl_L x) [vI (nI 46)] μ = some ((1622, hl_L x, []), μ) := rfl
set_option maxRecDepth 100000 in
theorem hl_sw_47 (x : Int32) (μ : hs_M) : hl_go 200 [] 1 39 (hl_L x) [vI (nI 47)] μ = some ((1647, hl_L x, []), μ) := rfl
set_option maxRecDepth 100000 in
theorem hl_sw_48 (x : Int32) (μ : hs_M) : hl_go 200 [] 1 39 (hl_L x) [vI (nI 48)] μ = some ((1672, hl_L x, []), μ) := rfl
set_option maxRecDepth 100000 in
theorem hl_sw_49 (x : Int32) (μ : hs_M) : hl_go 200 [] 1 39 (hl_L x) [vI (nI 49)] μ = some ((1697, hl_L x, []), μ) := rfl
set_option maxRecDepth 100000 in
theorem hl_sw_50 (x : Int32) (μ : hs_M) : hl_go 200 [] 1 39 (hl_L x) [vI (nI 50)] μ = some ((1752, hl_L x, []), μ) := rfl
set_option maxRecDepth 100000 in
theorem hl_sw_51 (x : Int32) (μ : hs_M) : hl_go 200 [] 1 39 (hl_L x) [vI (nI 51)] μ = some ((1752, hl_L x, []), μ) := rfl
set_option maxRecDepth 100000 in
theorem hl_sw_52 (x : Int32) (μ : hs_M) : hl_go 200 [] 1 39 (hl_L x) [vI (nI 52)] μ = some ((1752, hl_L x, []), μ) := rfl
set_option maxRecDepth 100000 in
theorem hl_sw_53 (x : Int32) (μ : hs_M) : hl_go 200 [] 1 39 (hl_L x) [vI (nI 53)] μ = some ((1752, hl_L x, []), μ) := rfl
set_option maxRecDepth 100000 in
theorem hl_sw_54 (x : Int32) (μ : hs_M) : hl_go 200 [] 1 39 (hl_L x) [vI (nI 54)] μ = some ((1752, hl_L x, []), μ) := rfl
set_option maxRecDepth 100000 in
theorem hl_sw_55 (x : Int32) (μ : hs_M) : hl_go 200 [] 1 39 (hl_L x) [vI (nI 55)] μ = some ((1752, hl_L x, []), μ) := rfl
set_option maxRecDepth 100000 in
theorem hl_sw_56 (x : Int32) (μ : hs_M) : hl_go 200 [] 1 39 (hl_L x) [vI (nI 56)] μ = some ((1752, hl_L x, []), μ) := rfl
set_option maxRecDepth 100000 in
theorem hl_sw_57 (x : Int32) (μ : hs_M) : hl_go 200 [] 1 39 (hl_L x) [vI (nI 57)] μ = some ((1752, hl_L x, []), μ) := rfl
set_option maxRecDepth 100000 in
theorem hl_sw_58 (x : Int32) (μ : hs_M) : hl_go 200 [] 1 39 (hl_L x) [vI (nI 58)] μ = some ((1752, hl_L x, []), μ) := rfl
set_option maxRecDepth 100000 in
theorem hl_sw_59 (x : Int32) (μ : hs_M) : hl_go 200 [] 1 39 (hl_L x) [vI (nI 59)] μ = some ((1752, hl_L x, []), μ) := rfl
set_option maxRecDepth 100000 in
theorem hl_sw_60 (x : Int32) (μ : hs_M) : hl_go 200 [] 1 39 (hl_L x) [vI (nI 60)] μ = some ((1752, hl_L x, []), μ) := rfl
set_option maxRecDepth 100000 in
theorem hl_sw_61 (x : Int32) (μ : hs_M) : hl_go 200 [] 1 39 (hl_L x) [vI (nI 61)] μ = some ((1752, hl_L x, []), μ) := rfl
set_option maxRecDepth 100000 in
theorem hl_sw_62 (x : Int32) (μ : hs_M) : hl_go 200 [] 1 39 (hl_L x) [vI (nI 62)] μ = some ((1752, hl_L x, []), μ) := rfl
set_option maxRecDepth 100000 in
theorem hl_sw_63 (x : Int32) (μ : hs_M) : hl_go 200 [] 1 39 (hl_L x) [vI (nI 63)] μ = some ((1752, hl_L x, []), μ) := rfl
