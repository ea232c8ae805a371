/-! ===== the code rows checked, 4 ===== -/
set_option maxRecDepth 100000 in
theorem hs_ckp_3 : hs_ckp 3 = true := by decide +kernel
set_option maxRecDepth 100000 in
theorem hs_ckp_6 : hs_ckp 6 = true := by decide +kernel
set_option maxRecDepth 100000 in
theorem hs_ckp_13 : hs_ckp 13 = true := by decide +kernel
set_option maxRecDepth 100000 in
theorem hs_ckp_26 : hs_ckp 26 = true := by decide +kernel
set_option maxRecDepth 100000 in
theorem hs_ckp_33 : hs_ckp 33 = true := by decide +kernel
set_option maxRecDepth 100000 in
theorem hs_ckp_35 : hs_ckp 35 = true := by decide +kernel
set_option maxRecDepth 100000 in
theorem hs_ckp_59 : hs_ckp 59 = true := by decide +kernel
set_option maxRecDepth 100000 in
theorem hs_ckp_68 : hs_ckp 68 = true := by decide +kernel
set_option maxRecDepth 100000 in
theorem hs_ckp_70 : hs_ckp 70 = true := by decide +kernel
set_option maxRecDepth 100000 in
theorem hs_ckp_72 : hs_ckp 72 = true := by decide +kernel
set_option maxRecDepth 100000 in
theorem hs_ckp_74 : hs_ckp 74 = true := by decide +kernel
set_option maxRecDepth 100000 in
theorem hs_ckp_77 : hs_ckp 77 = true := by decide +kernel
set_option maxRecDepth 100000 in
theorem hs_ckp_81 : hs_ckp 81 = true := by decide +kernel
set_option maxRecDepth 100000 in
theorem hs_ckp_91 : hs_ckp 91 = true := by decide +kernel
set_option maxRecDepth 100000 in
theorem hs_ckp_94 : hs_ckp 94 = true := by decide +kernel
set_option maxRecDepth 100000 in
theorem hs_ckp_96 : hs_ckp 96 = true := by decide +kernel
set_option maxRecDepth 100000 in
theorem hs_ckp_106 : hs_ckp 106 = true := by decide +kernel
set_option maxRecDepth 100000 in
theorem hs_ckp_145 : hs_ckp 145 = true := by decide +kernel
set_option maxRecDepth 100000 in
theorem hs_ckp_160 : hs_ckp 160 = true := by decide +kernel
set_option maxRecDepth 100000 in
theorem hs_ckp_163 : hs_ckp 163 = true := by decide +kernel
set_option maxRecDepth 100000 in
theorem hs_ckp_171 : hs_ckp 171 = true := by decide +kernel
set_option maxRecDepth 100000 in
theorem hs_ckp_175 : hs_ckp 175 = true := by decide +kernel
set_option maxRecDepth 100000 in
theorem hs_ckp_183 : hs_ckp 183 = true := by decide +kernel
set_option maxRecDepth 100000 in
theorem hs_ckp_187 : hs_ckp 187 = true := by decide +kernel
set_option maxRecDepth 100000 in
theorem hs_ckp_188 : hs_ckp 188 = true := by decide +kernel
set_option maxRecDepth 100000 in
theorem hs_ckp_202 : hs_ckp 202 = true := by decide +kernel
set_option maxRecDepth 100000 in
theorem hs_ckp_203 : hs_ckp 203 = true := by decide +kernel
set_option maxRecDepth 100000 in
theorem hs_ckp_207 : hs_ckp 207 = true := by decide +kernel
set_option maxRecDepth 100000 in
theorem hs_ckp_217 : hs_ckp 217 = true := by decide +kernel
set_option maxRecDepth 100000 in
theorem hs_ckp_233 : hs_ckp 233 = true := by decide +kernel
set_option maxRecDepth 100000 in
theorem hs_ckp_241 : hs_ckp 241 = true := by decide +kernel
set_option maxRecDepth 100000 in
theorem hs_ckp_251 : hs_ckp 251 = true := by decide +kernel
set_option maxRecDepth 100000 in
theorem hs_ckp_260 : hs_ckp 260 = true := by decide +kernel
