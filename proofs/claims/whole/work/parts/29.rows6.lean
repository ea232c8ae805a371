/-! ===== the code rows checked, 6 ===== -/
set_option maxRecDepth 100000 in
theorem hs_ckp_9 : hs_ckp 9 = true := by decide +kernel
set_option maxRecDepth 100000 in
theorem hs_ckp_12 : hs_ckp 12 = true := by decide +kernel
set_option maxRecDepth 100000 in
theorem hs_ckp_18 : hs_ckp 18 = true := by decide +kernel
set_option maxRecDepth 100000 in
theorem hs_ckp_19 : hs_ckp 19 = true := by decide +kernel
set_option maxRecDepth 100000 in
theorem hs_ckp_28 : hs_ckp 28 = true := by decide +kernel
set_option maxRecDepth 100000 in
theorem hs_ckp_38 : hs_ckp 38 = true := by decide +kernel
set_option maxRecDepth 100000 in
theorem hs_ckp_46 : hs_ckp 46 = true := by decide +kernel
set_option maxRecDepth 100000 in
theorem hs_ckp_53 : hs_ckp 53 = true := by decide +kernel
set_option maxRecDepth 100000 in
theorem hs_ckp_63 : hs_ckp 63 = true := by decide +kernel
set_option maxRecDepth 100000 in
theorem hs_ckp_66 : hs_ckp 66 = true := by decide +kernel
set_option maxRecDepth 100000 in
theorem hs_ckp_69 : hs_ckp 69 = true := by decide +kernel
set_option maxRecDepth 100000 in
theorem hs_ckp_71 : hs_ckp 71 = true := by decide +kernel
set_option maxRecDepth 100000 in
theorem hs_ckp_88 : hs_ckp 88 = true := by decide +kernel
set_option maxRecDepth 100000 in
theorem hs_ckp_109 : hs_ckp 109 = true := by decide +kernel
set_option maxRecDepth 100000 in
theorem hs_ckp_111 : hs_ckp 111 = true := by decide +kernel
set_option maxRecDepth 100000 in
theorem hs_ckp_115 : hs_ckp 115 = true := by decide +kernel
set_option maxRecDepth 100000 in
theorem hs_ckp_140 : hs_ckp 140 = true := by decide +kernel
set_option maxRecDepth 100000 in
theorem hs_ckp_142 : hs_ckp 142 = true := by decide +kernel
set_option maxRecDepth 100000 in
theorem hs_ckp_150 : hs_ckp 150 = true := by decide +kernel
set_option maxRecDepth 100000 in
theorem hs_ckp_153 : hs_ckp 153 = true := by decide +kernel
set_option maxRecDepth 100000 in
theorem hs_ckp_164 : hs_ckp 164 = true := by decide +kernel
set_option maxRecDepth 100000 in
theorem hs_ckp_180 : hs_ckp 180 = true := by decide +kernel
set_option maxRecDepth 100000 in
theorem hs_ckp_185 : hs_ckp 185 = true := by decide +kernel
set_option maxRecDepth 100000 in
theorem hs_ckp_208 : hs_ckp 208 = true := by decide +kernel
set_option maxRecDepth 100000 in
theorem hs_ckp_216 : hs_ckp 216 = true := by decide +kernel
set_option maxRecDepth 100000 in
theorem hs_ckp_221 : hs_ckp 221 = true := by decide +kernel
set_option maxRecDepth 100000 in
theorem hs_ckp_229 : hs_ckp 229 = true := by decide +kernel
set_option maxRecDepth 100000 in
theorem hs_ckp_232 : hs_ckp 232 = true := by decide +kernel
set_option maxRecDepth 100000 in
theorem hs_ckp_235 : hs_ckp 235 = true := by decide +kernel
set_option maxRecDepth 100000 in
theorem hs_ckp_247 : hs_ckp 247 = true := by decide +kernel
set_option maxRecDepth 100000 in
theorem hs_ckp_252 : hs_ckp 252 = true := by decide +kernel
set_option maxRecDepth 100000 in
theorem hs_ckp_255 : hs_ckp 255 = true := by decide +kernel
set_option maxRecDepth 100000 in
theorem hs_ckp_257 : hs_ckp 257 = true := by decide +kernel
