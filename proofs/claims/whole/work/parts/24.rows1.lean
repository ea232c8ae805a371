/-! ===== the code rows checked, 1 ===== -/
set_option maxRecDepth 100000 in
theorem hs_ckp_8 : hs_ckp 8 = true := by decide +kernel
set_option maxRecDepth 100000 in
theorem hs_ckp_14 : hs_ckp 14 = true := by decide +kernel
set_option maxRecDepth 100000 in
theorem hs_ckp_17 : hs_ckp 17 = true := by decide +kernel
set_option maxRecDepth 100000 in
theorem hs_ckp_20 : hs_ckp 20 = true := by decide +kernel
set_option maxRecDepth 100000 in
theorem hs_ckp_21 : hs_ckp 21 = true := by decide +kernel
set_option maxRecDepth 100000 in
theorem hs_ckp_24 : hs_ckp 24 = true := by decide +kernel
set_option maxRecDepth 100000 in
theorem hs_ckp_27 : hs_ckp 27 = true := by decide +kernel
set_option maxRecDepth 100000 in
theorem hs_ckp_32 : hs_ckp 32 = true := by decide +kernel
set_option maxRecDepth 100000 in
theorem hs_ckp_40 : hs_ckp 40 = true := by decide +kernel
set_option maxRecDepth 100000 in
theorem hs_ckp_44 : hs_ckp 44 = true := by decide +kernel
set_option maxRecDepth 100000 in
theorem hs_ckp_73 : hs_ckp 73 = true := by decide +kernel
set_option maxRecDepth 100000 in
theorem hs_ckp_76 : hs_ckp 76 = true := by decide +kernel
set_option maxRecDepth 100000 in
theorem hs_ckp_92 : hs_ckp 92 = true := by decide +kernel
set_option maxRecDepth 100000 in
theorem hs_ckp_93 : hs_ckp 93 = true := by decide +kernel
set_option maxRecDepth 100000 in
theorem hs_ckp_101 : hs_ckp 101 = true := by decide +kernel
set_option maxRecDepth 100000 in
theorem hs_ckp_118 : hs_ckp 118 = true := by decide +kernel
set_option maxRecDepth 100000 in
theorem hs_ckp_120 : hs_ckp 120 = true := by decide +kernel
set_option maxRecDepth 100000 in
theorem hs_ckp_123 : hs_ckp 123 = true := by decide +kernel
set_option maxRecDepth 100000 in
theorem hs_ckp_126 : hs_ckp 126 = true := by decide +kernel
set_option maxRecDepth 100000 in
theorem hs_ckp_127 : hs_ckp 127 = true := by decide +kernel
set_option maxRecDepth 100000 in
theorem hs_ckp_133 : hs_ckp 133 = true := by decide +kernel
set_option maxRecDepth 100000 in
theorem hs_ckp_135 : hs_ckp 135 = true := by decide +kernel
set_option maxRecDepth 100000 in
theorem hs_ckp_156 : hs_ckp 156 = true := by decide +kernel
set_option maxRecDepth 100000 in
theorem hs_ckp_157 : hs_ckp 157 = true := by decide +kernel
set_option maxRecDepth 100000 in
theorem hs_ckp_189 : hs_ckp 189 = true := by decide +kernel
set_option maxRecDepth 100000 in
theorem hs_ckp_200 : hs_ckp 200 = true := by decide +kernel
set_option maxRecDepth 100000 in
theorem hs_ckp_215 : hs_ckp 215 = true := by decide +kernel
set_option maxRecDepth 100000 in
theorem hs_ckp_226 : hs_ckp 226 = true := by decide +kernel
set_option maxRecDepth 100000 in
theorem hs_ckp_240 : hs_ckp 240 = true := by decide +kernel
set_option maxRecDepth 100000 in
theorem hs_ckp_249 : hs_ckp 249 = true := by decide +kernel
set_option maxRecDepth 100000 in
theorem hs_ckp_261 : hs_ckp 261 = true := by decide +kernel
