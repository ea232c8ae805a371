/-! ===== the code rows checked, 7 ===== -/
set_option maxRecDepth 100000 in
theorem hs_ckp_0 : hs_ckp 0 = true := by decide +kernel
set_option maxRecDepth 100000 in
theorem hs_ckp_4 : hs_ckp 4 = true := by decide +kernel
set_option maxRecDepth 100000 in
theorem hs_ckp_6 : hs_ckp 6 = true := by decide +kernel
set_option maxRecDepth 100000 in
theorem hs_ckp_10 : hs_ckp 10 = true := by decide +kernel
set_option maxRecDepth 100000 in
theorem hs_ckp_28 : hs_ckp 28 = true := by decide +kernel
set_option maxRecDepth 100000 in
theorem hs_ckp_31 : hs_ckp 31 = true := by decide +kernel
set_option maxRecDepth 100000 in
theorem hs_ckp_41 : hs_ckp 41 = true := by decide +kernel
set_option maxRecDepth 100000 in
theorem hs_ckp_51 : hs_ckp 51 = true := by decide +kernel
set_option maxRecDepth 100000 in
theorem hs_ckp_58 : hs_ckp 58 = true := by decide +kernel
set_option maxRecDepth 100000 in
theorem hs_ckp_60 : hs_ckp 60 = true := by decide +kernel
set_option maxRecDepth 100000 in
theorem hs_ckp_72 : hs_ckp 72 = true := by decide +kernel
set_option maxRecDepth 100000 in
theorem hs_ckp_88 : hs_ckp 88 = true := by decide +kernel
set_option maxRecDepth 100000 in
theorem hs_ckp_96 : hs_ckp 96 = true := by decide +kernel
set_option maxRecDepth 100000 in
theorem hs_ckp_105 : hs_ckp 105 = true := by decide +kernel
set_option maxRecDepth 100000 in
theorem hs_ckp_109 : hs_ckp 109 = true := by decide +kernel
set_option maxRecDepth 100000 in
theorem hs_ckp_124 : hs_ckp 124 = true := by decide +kernel
set_option maxRecDepth 100000 in
theorem hs_ckp_127 : hs_ckp 127 = true := by decide +kernel
set_option maxRecDepth 100000 in
theorem hs_ckp_137 : hs_ckp 137 = true := by decide +kernel
set_option maxRecDepth 100000 in
theorem hs_ckp_139 : hs_ckp 139 = true := by decide +kernel
set_option maxRecDepth 100000 in
theorem hs_ckp_153 : hs_ckp 153 = true := by decide +kernel
set_option maxRecDepth 100000 in
theorem hs_ckp_155 : hs_ckp 155 = true := by decide +kernel
set_option maxRecDepth 100000 in
theorem hs_ckp_177 : hs_ckp 177 = true := by decide +kernel
set_option maxRecDepth 100000 in
theorem hs_ckp_183 : hs_ckp 183 = true := by decide +kernel
set_option maxRecDepth 100000 in
theorem hs_ckp_184 : hs_ckp 184 = true := by decide +kernel
set_option maxRecDepth 100000 in
theorem hs_ckp_204 : hs_ckp 204 = true := by decide +kernel
set_option maxRecDepth 100000 in
theorem hs_ckp_207 : hs_ckp 207 = true := by decide +kernel
set_option maxRecDepth 100000 in
theorem hs_ckp_211 : hs_ckp 211 = true := by decide +kernel
set_option maxRecDepth 100000 in
theorem hs_ckp_213 : hs_ckp 213 = true := by decide +kernel
set_option maxRecDepth 100000 in
theorem hs_ckp_215 : hs_ckp 215 = true := by decide +kernel
set_option maxRecDepth 100000 in
theorem hs_ckp_217 : hs_ckp 217 = true := by decide +kernel
set_option maxRecDepth 100000 in
theorem hs_ckp_219 : hs_ckp 219 = true := by decide +kernel
set_option maxRecDepth 100000 in
theorem hs_ckp_239 : hs_ckp 239 = true := by decide +kernel
set_option maxRecDepth 100000 in
theorem hs_ckp_241 : hs_ckp 241 = true := by decide +kernel
set_option maxRecDepth 100000 in
theorem hs_ckp_245 : hs_ckp 245 = true := by decide +kernel
