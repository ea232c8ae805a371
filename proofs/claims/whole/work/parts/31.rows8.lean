/-! ===== the code rows checked, 8 ===== -/
set_option maxRecDepth 100000 in
theorem hs_ckp_9 : hs_ckp 9 = true := by decide +kernel
set_option maxRecDepth 100000 in
theorem hs_ckp_17 : hs_ckp 17 = true := by decide +kernel
set_option maxRecDepth 100000 in
theorem hs_ckp_20 : hs_ckp 20 = true := by decide +kernel
set_option maxRecDepth 100000 in
theorem hs_ckp_26 : hs_ckp 26 = true := by decide +kernel
set_option maxRecDepth 100000 in
theorem hs_ckp_33 : hs_ckp 33 = true := by decide +kernel
set_option maxRecDepth 100000 in
theorem hs_ckp_34 : hs_ckp 34 = true := by decide +kernel
set_option maxRecDepth 100000 in
theorem hs_ckp_50 : hs_ckp 50 = true := by decide +kernel
set_option maxRecDepth 100000 in
theorem hs_ckp_54 : hs_ckp 54 = true := by decide +kernel
set_option maxRecDepth 100000 in
theorem hs_ckp_78 : hs_ckp 78 = true := by decide +kernel
set_option maxRecDepth 100000 in
theorem hs_ckp_89 : hs_ckp 89 = true := by decide +kernel
set_option maxRecDepth 100000 in
theorem hs_ckp_92 : hs_ckp 92 = true := by decide +kernel
set_option maxRecDepth 100000 in
theorem hs_ckp_99 : hs_ckp 99 = true := by decide +kernel
set_option maxRecDepth 100000 in
theorem hs_ckp_101 : hs_ckp 101 = true := by decide +kernel
set_option maxRecDepth 100000 in
theorem hs_ckp_108 : hs_ckp 108 = true := by decide +kernel
set_option maxRecDepth 100000 in
theorem hs_ckp_112 : hs_ckp 112 = true := by decide +kernel
set_option maxRecDepth 100000 in
theorem hs_ckp_113 : hs_ckp 113 = true := by decide +kernel
set_option maxRecDepth 100000 in
theorem hs_ckp_126 : hs_ckp 126 = true := by decide +kernel
set_option maxRecDepth 100000 in
theorem hs_ckp_142 : hs_ckp 142 = true := by decide +kernel
set_option maxRecDepth 100000 in
theorem hs_ckp_144 : hs_ckp 144 = true := by decide +kernel
set_option maxRecDepth 100000 in
theorem hs_ckp_145 : hs_ckp 145 = true := by decide +kernel
set_option maxRecDepth 100000 in
theorem hs_ckp_150 : hs_ckp 150 = true := by decide +kernel
set_option maxRecDepth 100000 in
theorem hs_ckp_152 : hs_ckp 152 = true := by decide +kernel
set_option maxRecDepth 100000 in
theorem hs_ckp_164 : hs_ckp 164 = true := by decide +kernel
set_option maxRecDepth 100000 in
theorem hs_ckp_166 : hs_ckp 166 = true := by decide +kernel
set_option maxRecDepth 100000 in
theorem hs_ckp_173 : hs_ckp 173 = true := by decide +kernel
set_option maxRecDepth 100000 in
theorem hs_ckp_174 : hs_ckp 174 = true := by decide +kernel
set_option maxRecDepth 100000 in
theorem hs_ckp_182 : hs_ckp 182 = true := by decide +kernel
set_option maxRecDepth 100000 in
theorem hs_ckp_186 : hs_ckp 186 = true := by decide +kernel
set_option maxRecDepth 100000 in
theorem hs_ckp_196 : hs_ckp 196 = true := by decide +kernel
set_option maxRecDepth 100000 in
theorem hs_ckp_218 : hs_ckp 218 = true := by decide +kernel
set_option maxRecDepth 100000 in
theorem hs_ckp_221 : hs_ckp 221 = true := by decide +kernel
set_option maxRecDepth 100000 in
theorem hs_ckp_232 : hs_ckp 232 = true := by decide +kernel
set_option maxRecDepth 100000 in
theorem hs_ckp_247 : hs_ckp 247 = true := by decide +kernel
set_option maxRecDepth 100000 in
theorem hs_ckp_248 : hs_ckp 248 = true := by decide +kernel
