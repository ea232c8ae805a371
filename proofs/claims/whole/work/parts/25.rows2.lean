/-! ===== the code rows checked, 2 ===== -/
set_option maxRecDepth 100000 in
theorem hs_ckp_8 : hs_ckp 8 = true := by decide +kernel
set_option maxRecDepth 100000 in
theorem hs_ckp_11 : hs_ckp 11 = true := by decide +kernel
set_option maxRecDepth 100000 in
theorem hs_ckp_15 : hs_ckp 15 = true := by decide +kernel
set_option maxRecDepth 100000 in
theorem hs_ckp_25 : hs_ckp 25 = true := by decide +kernel
set_option maxRecDepth 100000 in
theorem hs_ckp_29 : hs_ckp 29 = true := by decide +kernel
set_option maxRecDepth 100000 in
theorem hs_ckp_32 : hs_ckp 32 = true := by decide +kernel
set_option maxRecDepth 100000 in
theorem hs_ckp_56 : hs_ckp 56 = true := by decide +kernel
set_option maxRecDepth 100000 in
theorem hs_ckp_73 : hs_ckp 73 = true := by decide +kernel
set_option maxRecDepth 100000 in
theorem hs_ckp_74 : hs_ckp 74 = true := by decide +kernel
set_option maxRecDepth 100000 in
theorem hs_ckp_77 : hs_ckp 77 = true := by decide +kernel
set_option maxRecDepth 100000 in
theorem hs_ckp_81 : hs_ckp 81 = true := by decide +kernel
set_option maxRecDepth 100000 in
theorem hs_ckp_86 : hs_ckp 86 = true := by decide +kernel
set_option maxRecDepth 100000 in
theorem hs_ckp_97 : hs_ckp 97 = true := by decide +kernel
set_option maxRecDepth 100000 in
theorem hs_ckp_102 : hs_ckp 102 = true := by decide +kernel
set_option maxRecDepth 100000 in
theorem hs_ckp_123 : hs_ckp 123 = true := by decide +kernel
set_option maxRecDepth 100000 in
theorem hs_ckp_130 : hs_ckp 130 = true := by decide +kernel
set_option maxRecDepth 100000 in
theorem hs_ckp_138 : hs_ckp 138 = true := by decide +kernel
set_option maxRecDepth 100000 in
theorem hs_ckp_154 : hs_ckp 154 = true := by decide +kernel
set_option maxRecDepth 100000 in
theorem hs_ckp_157 : hs_ckp 157 = true := by decide +kernel
set_option maxRecDepth 100000 in
theorem hs_ckp_160 : hs_ckp 160 = true := by decide +kernel
set_option maxRecDepth 100000 in
theorem hs_ckp_179 : hs_ckp 179 = true := by decide +kernel
set_option maxRecDepth 100000 in
theorem hs_ckp_190 : hs_ckp 190 = true := by decide +kernel
set_option maxRecDepth 100000 in
theorem hs_ckp_192 : hs_ckp 192 = true := by decide +kernel
set_option maxRecDepth 100000 in
theorem hs_ckp_193 : hs_ckp 193 = true := by decide +kernel
set_option maxRecDepth 100000 in
theorem hs_ckp_198 : hs_ckp 198 = true := by decide +kernel
set_option maxRecDepth 100000 in
theorem hs_ckp_199 : hs_ckp 199 = true := by decide +kernel
set_option maxRecDepth 100000 in
theorem hs_ckp_200 : hs_ckp 200 = true := by decide +kernel
set_option maxRecDepth 100000 in
theorem hs_ckp_208 : hs_ckp 208 = true := by decide +kernel
set_option maxRecDepth 100000 in
theorem hs_ckp_209 : hs_ckp 209 = true := by decide +kernel
set_option maxRecDepth 100000 in
theorem hs_ckp_237 : hs_ckp 237 = true := by decide +kernel
set_option maxRecDepth 100000 in
theorem hs_ckp_244 : hs_ckp 244 = true := by decide +kernel
set_option maxRecDepth 100000 in
theorem hs_ckp_256 : hs_ckp 256 = true := by decide +kernel
set_option maxRecDepth 100000 in
theorem hs_ckp_259 : hs_ckp 259 = true := by decide +kernel
