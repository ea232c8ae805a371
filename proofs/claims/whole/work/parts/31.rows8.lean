/-! ===== the code rows checked, 8 ===== -/
set_option maxRecDepth 100000 in
theorem hs_ckp_5 : hs_ckp 5 = true := by decide +kernel
set_option maxRecDepth 100000 in
theorem hs_ckp_25 : hs_ckp 25 = true := by decide +kernel
set_option maxRecDepth 100000 in
theorem hs_ckp_30 : hs_ckp 30 = true := by decide +kernel
set_option maxRecDepth 100000 in
theorem hs_ckp_34 : hs_ckp 34 = true := by decide +kernel
set_option maxRecDepth 100000 in
theorem hs_ckp_39 : hs_ckp 39 = true := by decide +kernel
set_option maxRecDepth 100000 in
theorem hs_ckp_50 : hs_ckp 50 = true := by decide +kernel
set_option maxRecDepth 100000 in
theorem hs_ckp_61 : hs_ckp 61 = true := by decide +kernel
set_option maxRecDepth 100000 in
theorem hs_ckp_64 : hs_ckp 64 = true := by decide +kernel
set_option maxRecDepth 100000 in
theorem hs_ckp_75 : hs_ckp 75 = true := by decide +kernel
set_option maxRecDepth 100000 in
theorem hs_ckp_79 : hs_ckp 79 = true := by decide +kernel
set_option maxRecDepth 100000 in
theorem hs_ckp_86 : hs_ckp 86 = true := by decide +kernel
set_option maxRecDepth 100000 in
theorem hs_ckp_89 : hs_ckp 89 = true := by decide +kernel
set_option maxRecDepth 100000 in
theorem hs_ckp_98 : hs_ckp 98 = true := by decide +kernel
set_option maxRecDepth 100000 in
theorem hs_ckp_100 : hs_ckp 100 = true := by decide +kernel
set_option maxRecDepth 100000 in
theorem hs_ckp_102 : hs_ckp 102 = true := by decide +kernel
set_option maxRecDepth 100000 in
theorem hs_ckp_114 : hs_ckp 114 = true := by decide +kernel
set_option maxRecDepth 100000 in
theorem hs_ckp_116 : hs_ckp 116 = true := by decide +kernel
set_option maxRecDepth 100000 in
theorem hs_ckp_122 : hs_ckp 122 = true := by decide +kernel
set_option maxRecDepth 100000 in
theorem hs_ckp_129 : hs_ckp 129 = true := by decide +kernel
set_option maxRecDepth 100000 in
theorem hs_ckp_138 : hs_ckp 138 = true := by decide +kernel
set_option maxRecDepth 100000 in
theorem hs_ckp_147 : hs_ckp 147 = true := by decide +kernel
set_option maxRecDepth 100000 in
theorem hs_ckp_181 : hs_ckp 181 = true := by decide +kernel
set_option maxRecDepth 100000 in
theorem hs_ckp_193 : hs_ckp 193 = true := by decide +kernel
set_option maxRecDepth 100000 in
theorem hs_ckp_194 : hs_ckp 194 = true := by decide +kernel
set_option maxRecDepth 100000 in
theorem hs_ckp_206 : hs_ckp 206 = true := by decide +kernel
set_option maxRecDepth 100000 in
theorem hs_ckp_209 : hs_ckp 209 = true := by decide +kernel
set_option maxRecDepth 100000 in
theorem hs_ckp_211 : hs_ckp 211 = true := by decide +kernel
set_option maxRecDepth 100000 in
theorem hs_ckp_214 : hs_ckp 214 = true := by decide +kernel
set_option maxRecDepth 100000 in
theorem hs_ckp_218 : hs_ckp 218 = true := by decide +kernel
set_option maxRecDepth 100000 in
theorem hs_ckp_234 : hs_ckp 234 = true := by decide +kernel
set_option maxRecDepth 100000 in
theorem hs_ckp_248 : hs_ckp 248 = true := by decide +kernel
set_option maxRecDepth 100000 in
theorem hs_ckp_250 : hs_ckp 250 = true := by decide +kernel
set_option maxRecDepth 100000 in
theorem hs_ckp_253 : hs_ckp 253 = true := by decide +kernel
