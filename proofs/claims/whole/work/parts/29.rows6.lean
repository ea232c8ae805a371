/-! ===== the code rows checked, 6 ===== -/
set_option maxRecDepth 100000 in
theorem hs_ckp_21 : hs_ckp 21 = true := by decide +kernel
set_option maxRecDepth 100000 in
theorem hs_ckp_22 : hs_ckp 22 = true := by decide +kernel
set_option maxRecDepth 100000 in
theorem hs_ckp_36 : hs_ckp 36 = true := by decide +kernel
set_option maxRecDepth 100000 in
theorem hs_ckp_49 : hs_ckp 49 = true := by decide +kernel
set_option maxRecDepth 100000 in
theorem hs_ckp_52 : hs_ckp 52 = true := by decide +kernel
set_option maxRecDepth 100000 in
theorem hs_ckp_61 : hs_ckp 61 = true := by decide +kernel
set_option maxRecDepth 100000 in
theorem hs_ckp_70 : hs_ckp 70 = true := by decide +kernel
set_option maxRecDepth 100000 in
theorem hs_ckp_83 : hs_ckp 83 = true := by decide +kernel
set_option maxRecDepth 100000 in
theorem hs_ckp_91 : hs_ckp 91 = true := by decide +kernel
set_option maxRecDepth 100000 in
theorem hs_ckp_117 : hs_ckp 117 = true := by decide +kernel
set_option maxRecDepth 100000 in
theorem hs_ckp_118 : hs_ckp 118 = true := by decide +kernel
set_option maxRecDepth 100000 in
theorem hs_ckp_120 : hs_ckp 120 = true := by decide +kernel
set_option maxRecDepth 100000 in
theorem hs_ckp_125 : hs_ckp 125 = true := by decide +kernel
set_option maxRecDepth 100000 in
theorem hs_ckp_128 : hs_ckp 128 = true := by decide +kernel
set_option maxRecDepth 100000 in
theorem hs_ckp_134 : hs_ckp 134 = true := by decide +kernel
set_option maxRecDepth 100000 in
theorem hs_ckp_135 : hs_ckp 135 = true := by decide +kernel
set_option maxRecDepth 100000 in
theorem hs_ckp_140 : hs_ckp 140 = true := by decide +kernel
set_option maxRecDepth 100000 in
theorem hs_ckp_148 : hs_ckp 148 = true := by decide +kernel
set_option maxRecDepth 100000 in
theorem hs_ckp_158 : hs_ckp 158 = true := by decide +kernel
set_option maxRecDepth 100000 in
theorem hs_ckp_165 : hs_ckp 165 = true := by decide +kernel
set_option maxRecDepth 100000 in
theorem hs_ckp_172 : hs_ckp 172 = true := by decide +kernel
set_option maxRecDepth 100000 in
theorem hs_ckp_189 : hs_ckp 189 = true := by decide +kernel
set_option maxRecDepth 100000 in
theorem hs_ckp_194 : hs_ckp 194 = true := by decide +kernel
set_option maxRecDepth 100000 in
theorem hs_ckp_195 : hs_ckp 195 = true := by decide +kernel
set_option maxRecDepth 100000 in
theorem hs_ckp_203 : hs_ckp 203 = true := by decide +kernel
set_option maxRecDepth 100000 in
theorem hs_ckp_210 : hs_ckp 210 = true := by decide +kernel
set_option maxRecDepth 100000 in
theorem hs_ckp_216 : hs_ckp 216 = true := by decide +kernel
set_option maxRecDepth 100000 in
theorem hs_ckp_223 : hs_ckp 223 = true := by decide +kernel
set_option maxRecDepth 100000 in
theorem hs_ckp_229 : hs_ckp 229 = true := by decide +kernel
set_option maxRecDepth 100000 in
theorem hs_ckp_233 : hs_ckp 233 = true := by decide +kernel
set_option maxRecDepth 100000 in
theorem hs_ckp_240 : hs_ckp 240 = true := by decide +kernel
set_option maxRecDepth 100000 in
theorem hs_ckp_242 : hs_ckp 242 = true := by decide +kernel
set_option maxRecDepth 100000 in
theorem hs_ckp_258 : hs_ckp 258 = true := by decide +kernel
set_option maxRecDepth 100000 in
theorem hs_ckp_262 : hs_ckp 262 = true := by decide +kernel
