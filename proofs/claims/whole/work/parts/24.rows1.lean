/-! ===== the code rows checked, 1 ===== -/
set_option maxRecDepth 100000 in
theorem hs_ckp_2 : hs_ckp 2 = true := by decide +kernel
set_option maxRecDepth 100000 in
theorem hs_ckp_3 : hs_ckp 3 = true := by decide +kernel
set_option maxRecDepth 100000 in
theorem hs_ckp_24 : hs_ckp 24 = true := by decide +kernel
set_option maxRecDepth 100000 in
theorem hs_ckp_44 : hs_ckp 44 = true := by decide +kernel
set_option maxRecDepth 100000 in
theorem hs_ckp_47 : hs_ckp 47 = true := by decide +kernel
set_option maxRecDepth 100000 in
theorem hs_ckp_59 : hs_ckp 59 = true := by decide +kernel
set_option maxRecDepth 100000 in
theorem hs_ckp_63 : hs_ckp 63 = true := by decide +kernel
set_option maxRecDepth 100000 in
theorem hs_ckp_66 : hs_ckp 66 = true := by decide +kernel
set_option maxRecDepth 100000 in
theorem hs_ckp_76 : hs_ckp 76 = true := by decide +kernel
set_option maxRecDepth 100000 in
theorem hs_ckp_79 : hs_ckp 79 = true := by decide +kernel
set_option maxRecDepth 100000 in
theorem hs_ckp_85 : hs_ckp 85 = true := by decide +kernel
set_option maxRecDepth 100000 in
theorem hs_ckp_106 : hs_ckp 106 = true := by decide +kernel
set_option maxRecDepth 100000 in
theorem hs_ckp_115 : hs_ckp 115 = true := by decide +kernel
set_option maxRecDepth 100000 in
theorem hs_ckp_136 : hs_ckp 136 = true := by decide +kernel
set_option maxRecDepth 100000 in
theorem hs_ckp_146 : hs_ckp 146 = true := by decide +kernel
set_option maxRecDepth 100000 in
theorem hs_ckp_147 : hs_ckp 147 = true := by decide +kernel
set_option maxRecDepth 100000 in
theorem hs_ckp_149 : hs_ckp 149 = true := by decide +kernel
set_option maxRecDepth 100000 in
theorem hs_ckp_159 : hs_ckp 159 = true := by decide +kernel
set_option maxRecDepth 100000 in
theorem hs_ckp_162 : hs_ckp 162 = true := by decide +kernel
set_option maxRecDepth 100000 in
theorem hs_ckp_170 : hs_ckp 170 = true := by decide +kernel
set_option maxRecDepth 100000 in
theorem hs_ckp_171 : hs_ckp 171 = true := by decide +kernel
set_option maxRecDepth 100000 in
theorem hs_ckp_176 : hs_ckp 176 = true := by decide +kernel
set_option maxRecDepth 100000 in
theorem hs_ckp_187 : hs_ckp 187 = true := by decide +kernel
set_option maxRecDepth 100000 in
theorem hs_ckp_201 : hs_ckp 201 = true := by decide +kernel
set_option maxRecDepth 100000 in
theorem hs_ckp_205 : hs_ckp 205 = true := by decide +kernel
set_option maxRecDepth 100000 in
theorem hs_ckp_214 : hs_ckp 214 = true := by decide +kernel
set_option maxRecDepth 100000 in
theorem hs_ckp_220 : hs_ckp 220 = true := by decide +kernel
set_option maxRecDepth 100000 in
theorem hs_ckp_236 : hs_ckp 236 = true := by decide +kernel
set_option maxRecDepth 100000 in
theorem hs_ckp_243 : hs_ckp 243 = true := by decide +kernel
set_option maxRecDepth 100000 in
theorem hs_ckp_261 : hs_ckp 261 = true := by decide +kernel
set_option maxRecDepth 100000 in
theorem hs_ckp_266 : hs_ckp 266 = true := by decide +kernel
