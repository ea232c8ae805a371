/-! ===== the code rows checked, 3 ===== -/
set_option maxRecDepth 100000 in
theorem hs_ckp_22 : hs_ckp 22 = true := by decide +kernel
set_option maxRecDepth 100000 in
theorem hs_ckp_36 : hs_ckp 36 = true := by decide +kernel
set_option maxRecDepth 100000 in
theorem hs_ckp_47 : hs_ckp 47 = true := by decide +kernel
set_option maxRecDepth 100000 in
theorem hs_ckp_49 : hs_ckp 49 = true := by decide +kernel
set_option maxRecDepth 100000 in
theorem hs_ckp_54 : hs_ckp 54 = true := by decide +kernel
set_option maxRecDepth 100000 in
theorem hs_ckp_57 : hs_ckp 57 = true := by decide +kernel
set_option maxRecDepth 100000 in
theorem hs_ckp_83 : hs_ckp 83 = true := by decide +kernel
set_option maxRecDepth 100000 in
theorem hs_ckp_84 : hs_ckp 84 = true := by decide +kernel
set_option maxRecDepth 100000 in
theorem hs_ckp_87 : hs_ckp 87 = true := by decide +kernel
set_option maxRecDepth 100000 in
theorem hs_ckp_99 : hs_ckp 99 = true := by decide +kernel
set_option maxRecDepth 100000 in
theorem hs_ckp_107 : hs_ckp 107 = true := by decide +kernel
set_option maxRecDepth 100000 in
theorem hs_ckp_108 : hs_ckp 108 = true := by decide +kernel
set_option maxRecDepth 100000 in
theorem hs_ckp_113 : hs_ckp 113 = true := by decide +kernel
set_option maxRecDepth 100000 in
theorem hs_ckp_121 : hs_ckp 121 = true := by decide +kernel
set_option maxRecDepth 100000 in
theorem hs_ckp_130 : hs_ckp 130 = true := by decide +kernel
set_option maxRecDepth 100000 in
theorem hs_ckp_148 : hs_ckp 148 = true := by decide +kernel
set_option maxRecDepth 100000 in
theorem hs_ckp_151 : hs_ckp 151 = true := by decide +kernel
set_option maxRecDepth 100000 in
theorem hs_ckp_154 : hs_ckp 154 = true := by decide +kernel
set_option maxRecDepth 100000 in
theorem hs_ckp_162 : hs_ckp 162 = true := by decide +kernel
set_option maxRecDepth 100000 in
theorem hs_ckp_166 : hs_ckp 166 = true := by decide +kernel
set_option maxRecDepth 100000 in
theorem hs_ckp_169 : hs_ckp 169 = true := by decide +kernel
set_option maxRecDepth 100000 in
theorem hs_ckp_190 : hs_ckp 190 = true := by decide +kernel
set_option maxRecDepth 100000 in
theorem hs_ckp_192 : hs_ckp 192 = true := by decide +kernel
set_option maxRecDepth 100000 in
theorem hs_ckp_198 : hs_ckp 198 = true := by decide +kernel
set_option maxRecDepth 100000 in
theorem hs_ckp_204 : hs_ckp 204 = true := by decide +kernel
set_option maxRecDepth 100000 in
theorem hs_ckp_212 : hs_ckp 212 = true := by decide +kernel
set_option maxRecDepth 100000 in
theorem hs_ckp_223 : hs_ckp 223 = true := by decide +kernel
set_option maxRecDepth 100000 in
theorem hs_ckp_225 : hs_ckp 225 = true := by decide +kernel
set_option maxRecDepth 100000 in
theorem hs_ckp_228 : hs_ckp 228 = true := by decide +kernel
set_option maxRecDepth 100000 in
theorem hs_ckp_237 : hs_ckp 237 = true := by decide +kernel
set_option maxRecDepth 100000 in
theorem hs_ckp_239 : hs_ckp 239 = true := by decide +kernel
set_option maxRecDepth 100000 in
theorem hs_ckp_242 : hs_ckp 242 = true := by decide +kernel
set_option maxRecDepth 100000 in
theorem hs_ckp_259 : hs_ckp 259 = true := by decide +kernel
