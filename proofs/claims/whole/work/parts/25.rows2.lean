/-! ===== the code rows checked, 2 ===== -/
set_option maxRecDepth 100000 in
theorem hs_ckp_0 : hs_ckp 0 = true := by decide +kernel
set_option maxRecDepth 100000 in
theorem hs_ckp_2 : hs_ckp 2 = true := by decide +kernel
set_option maxRecDepth 100000 in
theorem hs_ckp_15 : hs_ckp 15 = true := by decide +kernel
set_option maxRecDepth 100000 in
theorem hs_ckp_31 : hs_ckp 31 = true := by decide +kernel
set_option maxRecDepth 100000 in
theorem hs_ckp_52 : hs_ckp 52 = true := by decide +kernel
set_option maxRecDepth 100000 in
theorem hs_ckp_56 : hs_ckp 56 = true := by decide +kernel
set_option maxRecDepth 100000 in
theorem hs_ckp_60 : hs_ckp 60 = true := by decide +kernel
set_option maxRecDepth 100000 in
theorem hs_ckp_80 : hs_ckp 80 = true := by decide +kernel
set_option maxRecDepth 100000 in
theorem hs_ckp_82 : hs_ckp 82 = true := by decide +kernel
set_option maxRecDepth 100000 in
theorem hs_ckp_90 : hs_ckp 90 = true := by decide +kernel
set_option maxRecDepth 100000 in
theorem hs_ckp_97 : hs_ckp 97 = true := by decide +kernel
set_option maxRecDepth 100000 in
theorem hs_ckp_105 : hs_ckp 105 = true := by decide +kernel
set_option maxRecDepth 100000 in
theorem hs_ckp_112 : hs_ckp 112 = true := by decide +kernel
set_option maxRecDepth 100000 in
theorem hs_ckp_119 : hs_ckp 119 = true := by decide +kernel
set_option maxRecDepth 100000 in
theorem hs_ckp_131 : hs_ckp 131 = true := by decide +kernel
set_option maxRecDepth 100000 in
theorem hs_ckp_137 : hs_ckp 137 = true := by decide +kernel
set_option maxRecDepth 100000 in
theorem hs_ckp_141 : hs_ckp 141 = true := by decide +kernel
set_option maxRecDepth 100000 in
theorem hs_ckp_144 : hs_ckp 144 = true := by decide +kernel
set_option maxRecDepth 100000 in
theorem hs_ckp_152 : hs_ckp 152 = true := by decide +kernel
set_option maxRecDepth 100000 in
theorem hs_ckp_155 : hs_ckp 155 = true := by decide +kernel
set_option maxRecDepth 100000 in
theorem hs_ckp_158 : hs_ckp 158 = true := by decide +kernel
set_option maxRecDepth 100000 in
theorem hs_ckp_161 : hs_ckp 161 = true := by decide +kernel
set_option maxRecDepth 100000 in
theorem hs_ckp_170 : hs_ckp 170 = true := by decide +kernel
set_option maxRecDepth 100000 in
theorem hs_ckp_173 : hs_ckp 173 = true := by decide +kernel
set_option maxRecDepth 100000 in
theorem hs_ckp_176 : hs_ckp 176 = true := by decide +kernel
set_option maxRecDepth 100000 in
theorem hs_ckp_177 : hs_ckp 177 = true := by decide +kernel
set_option maxRecDepth 100000 in
theorem hs_ckp_196 : hs_ckp 196 = true := by decide +kernel
set_option maxRecDepth 100000 in
theorem hs_ckp_213 : hs_ckp 213 = true := by decide +kernel
set_option maxRecDepth 100000 in
theorem hs_ckp_222 : hs_ckp 222 = true := by decide +kernel
set_option maxRecDepth 100000 in
theorem hs_ckp_231 : hs_ckp 231 = true := by decide +kernel
set_option maxRecDepth 100000 in
theorem hs_ckp_236 : hs_ckp 236 = true := by decide +kernel
set_option maxRecDepth 100000 in
theorem hs_ckp_246 : hs_ckp 246 = true := by decide +kernel
set_option maxRecDepth 100000 in
theorem hs_ckp_254 : hs_ckp 254 = true := by decide +kernel
