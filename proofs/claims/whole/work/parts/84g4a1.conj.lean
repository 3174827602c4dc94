-- conjugates of each group
set_option maxRecDepth 1000000 in
theorem kK_0 : rg 0 65 ckK = true := by decide +kernel
set_option maxRecDepth 1000000 in
theorem kK_65 : rg 65 65 ckK = true := by decide +kernel
set_option maxRecDepth 1000000 in
theorem kK_130 : rg 130 65 ckK = true := by decide +kernel
set_option maxRecDepth 1000000 in
theorem kK_195 : rg 195 63 ckK = true := by decide +kernel
