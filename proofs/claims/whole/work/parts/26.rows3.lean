/-! ===== the code rows checked, 3 ===== -/
set_option maxRecDepth 100000 in
theorem hs_ckp_12 : hs_ckp 12 = true := by decide +kernel
set_option maxRecDepth 100000 in
theorem hs_ckp_13 : hs_ckp 13 = true := by decide +kernel
set_option maxRecDepth 100000 in
theorem hs_ckp_43 : hs_ckp 43 = true := by decide +kernel
set_option maxRecDepth 100000 in
theorem hs_ckp_48 : hs_ckp 48 = true := by decide +kernel
set_option maxRecDepth 100000 in
theorem hs_ckp_67 : hs_ckp 67 = true := by decide +kernel
set_option maxRecDepth 100000 in
theorem hs_ckp_69 : hs_ckp 69 = true := by decide +kernel
set_option maxRecDepth 100000 in
theorem hs_ckp_71 : hs_ckp 71 = true := by decide +kernel
set_option maxRecDepth 100000 in
theorem hs_ckp_98 : hs_ckp 98 = true := by decide +kernel
set_option maxRecDepth 100000 in
theorem hs_ckp_104 : hs_ckp 104 = true := by decide +kernel
set_option maxRecDepth 100000 in
theorem hs_ckp_107 : hs_ckp 107 = true := by decide +kernel
set_option maxRecDepth 100000 in
theorem hs_ckp_119 : hs_ckp 119 = true := by decide +kernel
set_option maxRecDepth 100000 in
theorem hs_ckp_122 : hs_ckp 122 = true := by decide +kernel
set_option maxRecDepth 100000 in
theorem hs_ckp_131 : hs_ckp 131 = true := by decide +kernel
set_option maxRecDepth 100000 in
theorem hs_ckp_132 : hs_ckp 132 = true := by decide +kernel
set_option maxRecDepth 100000 in
theorem hs_ckp_143 : hs_ckp 143 = true := by decide +kernel
set_option maxRecDepth 100000 in
theorem hs_ckp_151 : hs_ckp 151 = true := by decide +kernel
set_option maxRecDepth 100000 in
theorem hs_ckp_156 : hs_ckp 156 = true := by decide +kernel
set_option maxRecDepth 100000 in
theorem hs_ckp_161 : hs_ckp 161 = true := by decide +kernel
set_option maxRecDepth 100000 in
theorem hs_ckp_163 : hs_ckp 163 = true := by decide +kernel
set_option maxRecDepth 100000 in
theorem hs_ckp_178 : hs_ckp 178 = true := by decide +kernel
set_option maxRecDepth 100000 in
theorem hs_ckp_181 : hs_ckp 181 = true := by decide +kernel
set_option maxRecDepth 100000 in
theorem hs_ckp_202 : hs_ckp 202 = true := by decide +kernel
set_option maxRecDepth 100000 in
theorem hs_ckp_206 : hs_ckp 206 = true := by decide +kernel
set_option maxRecDepth 100000 in
theorem hs_ckp_222 : hs_ckp 222 = true := by decide +kernel
set_option maxRecDepth 100000 in
theorem hs_ckp_224 : hs_ckp 224 = true := by decide +kernel
set_option maxRecDepth 100000 in
theorem hs_ckp_228 : hs_ckp 228 = true := by decide +kernel
set_option maxRecDepth 100000 in
theorem hs_ckp_234 : hs_ckp 234 = true := by decide +kernel
set_option maxRecDepth 100000 in
theorem hs_ckp_246 : hs_ckp 246 = true := by decide +kernel
set_option maxRecDepth 100000 in
theorem hs_ckp_253 : hs_ckp 253 = true := by decide +kernel
set_option maxRecDepth 100000 in
theorem hs_ckp_254 : hs_ckp 254 = true := by decide +kernel
set_option maxRecDepth 100000 in
theorem hs_ckp_255 : hs_ckp 255 = true := by decide +kernel
set_option maxRecDepth 100000 in
theorem hs_ckp_257 : hs_ckp 257 = true := by decide +kernel
set_option maxRecDepth 100000 in
theorem hs_ckp_264 : hs_ckp 264 = true := by decide +kernel
