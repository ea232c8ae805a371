/-! ===== the code rows checked, 7 ===== -/
set_option maxRecDepth 100000 in
theorem hs_ckp_1 : hs_ckp 1 = true := by decide +kernel
set_option maxRecDepth 100000 in
theorem hs_ckp_7 : hs_ckp 7 = true := by decide +kernel
set_option maxRecDepth 100000 in
theorem hs_ckp_11 : hs_ckp 11 = true := by decide +kernel
set_option maxRecDepth 100000 in
theorem hs_ckp_23 : hs_ckp 23 = true := by decide +kernel
set_option maxRecDepth 100000 in
theorem hs_ckp_41 : hs_ckp 41 = true := by decide +kernel
set_option maxRecDepth 100000 in
theorem hs_ckp_45 : hs_ckp 45 = true := by decide +kernel
set_option maxRecDepth 100000 in
theorem hs_ckp_48 : hs_ckp 48 = true := by decide +kernel
set_option maxRecDepth 100000 in
theorem hs_ckp_51 : hs_ckp 51 = true := by decide +kernel
set_option maxRecDepth 100000 in
theorem hs_ckp_62 : hs_ckp 62 = true := by decide +kernel
set_option maxRecDepth 100000 in
theorem hs_ckp_65 : hs_ckp 65 = true := by decide +kernel
set_option maxRecDepth 100000 in
theorem hs_ckp_67 : hs_ckp 67 = true := by decide +kernel
set_option maxRecDepth 100000 in
theorem hs_ckp_78 : hs_ckp 78 = true := by decide +kernel
set_option maxRecDepth 100000 in
theorem hs_ckp_85 : hs_ckp 85 = true := by decide +kernel
set_option maxRecDepth 100000 in
theorem hs_ckp_103 : hs_ckp 103 = true := by decide +kernel
set_option maxRecDepth 100000 in
theorem hs_ckp_128 : hs_ckp 128 = true := by decide +kernel
set_option maxRecDepth 100000 in
theorem hs_ckp_132 : hs_ckp 132 = true := by decide +kernel
set_option maxRecDepth 100000 in
theorem hs_ckp_146 : hs_ckp 146 = true := by decide +kernel
set_option maxRecDepth 100000 in
theorem hs_ckp_149 : hs_ckp 149 = true := by decide +kernel
set_option maxRecDepth 100000 in
theorem hs_ckp_159 : hs_ckp 159 = true := by decide +kernel
set_option maxRecDepth 100000 in
theorem hs_ckp_167 : hs_ckp 167 = true := by decide +kernel
set_option maxRecDepth 100000 in
theorem hs_ckp_168 : hs_ckp 168 = true := by decide +kernel
set_option maxRecDepth 100000 in
theorem hs_ckp_172 : hs_ckp 172 = true := by decide +kernel
set_option maxRecDepth 100000 in
theorem hs_ckp_178 : hs_ckp 178 = true := by decide +kernel
set_option maxRecDepth 100000 in
theorem hs_ckp_197 : hs_ckp 197 = true := by decide +kernel
set_option maxRecDepth 100000 in
theorem hs_ckp_199 : hs_ckp 199 = true := by decide +kernel
set_option maxRecDepth 100000 in
theorem hs_ckp_210 : hs_ckp 210 = true := by decide +kernel
set_option maxRecDepth 100000 in
theorem hs_ckp_219 : hs_ckp 219 = true := by decide +kernel
set_option maxRecDepth 100000 in
theorem hs_ckp_224 : hs_ckp 224 = true := by decide +kernel
set_option maxRecDepth 100000 in
theorem hs_ckp_227 : hs_ckp 227 = true := by decide +kernel
set_option maxRecDepth 100000 in
theorem hs_ckp_238 : hs_ckp 238 = true := by decide +kernel
set_option maxRecDepth 100000 in
theorem hs_ckp_243 : hs_ckp 243 = true := by decide +kernel
set_option maxRecDepth 100000 in
theorem hs_ckp_245 : hs_ckp 245 = true := by decide +kernel
set_option maxRecDepth 100000 in
theorem hs_ckp_258 : hs_ckp 258 = true := by decide +kernel
