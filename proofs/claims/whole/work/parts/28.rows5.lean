/-! ===== the code rows checked, 5 ===== -/
set_option maxRecDepth 100000 in
theorem hs_ckp_4 : hs_ckp 4 = true := by decide +kernel
set_option maxRecDepth 100000 in
theorem hs_ckp_10 : hs_ckp 10 = true := by decide +kernel
set_option maxRecDepth 100000 in
theorem hs_ckp_16 : hs_ckp 16 = true := by decide +kernel
set_option maxRecDepth 100000 in
theorem hs_ckp_29 : hs_ckp 29 = true := by decide +kernel
set_option maxRecDepth 100000 in
theorem hs_ckp_37 : hs_ckp 37 = true := by decide +kernel
set_option maxRecDepth 100000 in
theorem hs_ckp_42 : hs_ckp 42 = true := by decide +kernel
set_option maxRecDepth 100000 in
theorem hs_ckp_43 : hs_ckp 43 = true := by decide +kernel
set_option maxRecDepth 100000 in
theorem hs_ckp_55 : hs_ckp 55 = true := by decide +kernel
set_option maxRecDepth 100000 in
theorem hs_ckp_58 : hs_ckp 58 = true := by decide +kernel
set_option maxRecDepth 100000 in
theorem hs_ckp_95 : hs_ckp 95 = true := by decide +kernel
set_option maxRecDepth 100000 in
theorem hs_ckp_104 : hs_ckp 104 = true := by decide +kernel
set_option maxRecDepth 100000 in
theorem hs_ckp_110 : hs_ckp 110 = true := by decide +kernel
set_option maxRecDepth 100000 in
theorem hs_ckp_117 : hs_ckp 117 = true := by decide +kernel
set_option maxRecDepth 100000 in
theorem hs_ckp_124 : hs_ckp 124 = true := by decide +kernel
set_option maxRecDepth 100000 in
theorem hs_ckp_125 : hs_ckp 125 = true := by decide +kernel
set_option maxRecDepth 100000 in
theorem hs_ckp_134 : hs_ckp 134 = true := by decide +kernel
set_option maxRecDepth 100000 in
theorem hs_ckp_136 : hs_ckp 136 = true := by decide +kernel
set_option maxRecDepth 100000 in
theorem hs_ckp_139 : hs_ckp 139 = true := by decide +kernel
set_option maxRecDepth 100000 in
theorem hs_ckp_143 : hs_ckp 143 = true := by decide +kernel
set_option maxRecDepth 100000 in
theorem hs_ckp_165 : hs_ckp 165 = true := by decide +kernel
set_option maxRecDepth 100000 in
theorem hs_ckp_174 : hs_ckp 174 = true := by decide +kernel
set_option maxRecDepth 100000 in
theorem hs_ckp_179 : hs_ckp 179 = true := by decide +kernel
set_option maxRecDepth 100000 in
theorem hs_ckp_182 : hs_ckp 182 = true := by decide +kernel
set_option maxRecDepth 100000 in
theorem hs_ckp_184 : hs_ckp 184 = true := by decide +kernel
set_option maxRecDepth 100000 in
theorem hs_ckp_186 : hs_ckp 186 = true := by decide +kernel
set_option maxRecDepth 100000 in
theorem hs_ckp_191 : hs_ckp 191 = true := by decide +kernel
set_option maxRecDepth 100000 in
theorem hs_ckp_195 : hs_ckp 195 = true := by decide +kernel
set_option maxRecDepth 100000 in
theorem hs_ckp_201 : hs_ckp 201 = true := by decide +kernel
set_option maxRecDepth 100000 in
theorem hs_ckp_205 : hs_ckp 205 = true := by decide +kernel
set_option maxRecDepth 100000 in
theorem hs_ckp_220 : hs_ckp 220 = true := by decide +kernel
set_option maxRecDepth 100000 in
theorem hs_ckp_230 : hs_ckp 230 = true := by decide +kernel
set_option maxRecDepth 100000 in
theorem hs_ckp_244 : hs_ckp 244 = true := by decide +kernel
set_option maxRecDepth 100000 in
theorem hs_ckp_256 : hs_ckp 256 = true := by decide +kernel
