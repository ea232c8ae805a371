/-! ===== the code rows checked, 5 ===== -/
set_option maxRecDepth 100000 in
theorem hs_ckp_7 : hs_ckp 7 = true := by decide +kernel
set_option maxRecDepth 100000 in
theorem hs_ckp_16 : hs_ckp 16 = true := by decide +kernel
set_option maxRecDepth 100000 in
theorem hs_ckp_18 : hs_ckp 18 = true := by decide +kernel
set_option maxRecDepth 100000 in
theorem hs_ckp_19 : hs_ckp 19 = true := by decide +kernel
set_option maxRecDepth 100000 in
theorem hs_ckp_23 : hs_ckp 23 = true := by decide +kernel
set_option maxRecDepth 100000 in
theorem hs_ckp_38 : hs_ckp 38 = true := by decide +kernel
set_option maxRecDepth 100000 in
theorem hs_ckp_40 : hs_ckp 40 = true := by decide +kernel
set_option maxRecDepth 100000 in
theorem hs_ckp_45 : hs_ckp 45 = true := by decide +kernel
set_option maxRecDepth 100000 in
theorem hs_ckp_46 : hs_ckp 46 = true := by decide +kernel
set_option maxRecDepth 100000 in
theorem hs_ckp_55 : hs_ckp 55 = true := by decide +kernel
set_option maxRecDepth 100000 in
theorem hs_ckp_62 : hs_ckp 62 = true := by decide +kernel
set_option maxRecDepth 100000 in
theorem hs_ckp_75 : hs_ckp 75 = true := by decide +kernel
set_option maxRecDepth 100000 in
theorem hs_ckp_90 : hs_ckp 90 = true := by decide +kernel
set_option maxRecDepth 100000 in
theorem hs_ckp_93 : hs_ckp 93 = true := by decide +kernel
set_option maxRecDepth 100000 in
theorem hs_ckp_94 : hs_ckp 94 = true := by decide +kernel
set_option maxRecDepth 100000 in
theorem hs_ckp_100 : hs_ckp 100 = true := by decide +kernel
set_option maxRecDepth 100000 in
theorem hs_ckp_110 : hs_ckp 110 = true := by decide +kernel
set_option maxRecDepth 100000 in
theorem hs_ckp_111 : hs_ckp 111 = true := by decide +kernel
set_option maxRecDepth 100000 in
theorem hs_ckp_116 : hs_ckp 116 = true := by decide +kernel
set_option maxRecDepth 100000 in
theorem hs_ckp_121 : hs_ckp 121 = true := by decide +kernel
set_option maxRecDepth 100000 in
theorem hs_ckp_129 : hs_ckp 129 = true := by decide +kernel
set_option maxRecDepth 100000 in
theorem hs_ckp_167 : hs_ckp 167 = true := by decide +kernel
set_option maxRecDepth 100000 in
theorem hs_ckp_169 : hs_ckp 169 = true := by decide +kernel
set_option maxRecDepth 100000 in
theorem hs_ckp_175 : hs_ckp 175 = true := by decide +kernel
set_option maxRecDepth 100000 in
theorem hs_ckp_180 : hs_ckp 180 = true := by decide +kernel
set_option maxRecDepth 100000 in
theorem hs_ckp_185 : hs_ckp 185 = true := by decide +kernel
set_option maxRecDepth 100000 in
theorem hs_ckp_191 : hs_ckp 191 = true := by decide +kernel
set_option maxRecDepth 100000 in
theorem hs_ckp_212 : hs_ckp 212 = true := by decide +kernel
set_option maxRecDepth 100000 in
theorem hs_ckp_227 : hs_ckp 227 = true := by decide +kernel
set_option maxRecDepth 100000 in
theorem hs_ckp_238 : hs_ckp 238 = true := by decide +kernel
set_option maxRecDepth 100000 in
theorem hs_ckp_249 : hs_ckp 249 = true := by decide +kernel
set_option maxRecDepth 100000 in
theorem hs_ckp_251 : hs_ckp 251 = true := by decide +kernel
set_option maxRecDepth 100000 in
theorem hs_ckp_260 : hs_ckp 260 = true := by decide +kernel
set_option maxRecDepth 100000 in
theorem hs_ckp_263 : hs_ckp 263 = true := by decide +kernel
