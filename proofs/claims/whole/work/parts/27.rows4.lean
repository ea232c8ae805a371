/-! ===== the code rows checked, 4 ===== -/
set_option maxRecDepth 100000 in
theorem hs_ckp_1 : hs_ckp 1 = true := by decide +kernel
set_option maxRecDepth 100000 in
theorem hs_ckp_5 : hs_ckp 5 = true := by decide +kernel
set_option maxRecDepth 100000 in
theorem hs_ckp_14 : hs_ckp 14 = true := by decide +kernel
set_option maxRecDepth 100000 in
theorem hs_ckp_27 : hs_ckp 27 = true := by decide +kernel
set_option maxRecDepth 100000 in
theorem hs_ckp_30 : hs_ckp 30 = true := by decide +kernel
set_option maxRecDepth 100000 in
theorem hs_ckp_35 : hs_ckp 35 = true := by decide +kernel
set_option maxRecDepth 100000 in
theorem hs_ckp_37 : hs_ckp 37 = true := by decide +kernel
set_option maxRecDepth 100000 in
theorem hs_ckp_39 : hs_ckp 39 = true := by decide +kernel
set_option maxRecDepth 100000 in
theorem hs_ckp_42 : hs_ckp 42 = true := by decide +kernel
set_option maxRecDepth 100000 in
theorem hs_ckp_53 : hs_ckp 53 = true := by decide +kernel
set_option maxRecDepth 100000 in
theorem hs_ckp_57 : hs_ckp 57 = true := by decide +kernel
set_option maxRecDepth 100000 in
theorem hs_ckp_64 : hs_ckp 64 = true := by decide +kernel
set_option maxRecDepth 100000 in
theorem hs_ckp_65 : hs_ckp 65 = true := by decide +kernel
set_option maxRecDepth 100000 in
theorem hs_ckp_68 : hs_ckp 68 = true := by decide +kernel
set_option maxRecDepth 100000 in
theorem hs_ckp_80 : hs_ckp 80 = true := by decide +kernel
set_option maxRecDepth 100000 in
theorem hs_ckp_82 : hs_ckp 82 = true := by decide +kernel
set_option maxRecDepth 100000 in
theorem hs_ckp_84 : hs_ckp 84 = true := by decide +kernel
set_option maxRecDepth 100000 in
theorem hs_ckp_87 : hs_ckp 87 = true := by decide +kernel
set_option maxRecDepth 100000 in
theorem hs_ckp_95 : hs_ckp 95 = true := by decide +kernel
set_option maxRecDepth 100000 in
theorem hs_ckp_103 : hs_ckp 103 = true := by decide +kernel
set_option maxRecDepth 100000 in
theorem hs_ckp_114 : hs_ckp 114 = true := by decide +kernel
set_option maxRecDepth 100000 in
theorem hs_ckp_133 : hs_ckp 133 = true := by decide +kernel
set_option maxRecDepth 100000 in
theorem hs_ckp_141 : hs_ckp 141 = true := by decide +kernel
set_option maxRecDepth 100000 in
theorem hs_ckp_168 : hs_ckp 168 = true := by decide +kernel
set_option maxRecDepth 100000 in
theorem hs_ckp_188 : hs_ckp 188 = true := by decide +kernel
set_option maxRecDepth 100000 in
theorem hs_ckp_197 : hs_ckp 197 = true := by decide +kernel
set_option maxRecDepth 100000 in
theorem hs_ckp_225 : hs_ckp 225 = true := by decide +kernel
set_option maxRecDepth 100000 in
theorem hs_ckp_226 : hs_ckp 226 = true := by decide +kernel
set_option maxRecDepth 100000 in
theorem hs_ckp_230 : hs_ckp 230 = true := by decide +kernel
set_option maxRecDepth 100000 in
theorem hs_ckp_231 : hs_ckp 231 = true := by decide +kernel
set_option maxRecDepth 100000 in
theorem hs_ckp_235 : hs_ckp 235 = true := by decide +kernel
set_option maxRecDepth 100000 in
theorem hs_ckp_250 : hs_ckp 250 = true := by decide +kernel
set_option maxRecDepth 100000 in
theorem hs_ckp_252 : hs_ckp 252 = true := by decide +kernel
set_option maxRecDepth 100000 in
theorem hs_ckp_265 : hs_ckp 265 = true := by decide +kernel
