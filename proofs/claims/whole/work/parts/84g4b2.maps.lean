-- central maps of each group
set_option maxRecDepth 1000000 in
theorem kX_140 : rg 140 20 ckX = true := by decide +kernel
set_option maxRecDepth 1000000 in
theorem kX_160 : rg 160 20 ckX = true := by decide +kernel
set_option maxRecDepth 1000000 in
theorem kX_180 : rg 180 20 ckX = true := by decide +kernel
set_option maxRecDepth 1000000 in
theorem kX_200 : rg 200 20 ckX = true := by decide +kernel
set_option maxRecDepth 1000000 in
theorem kX_220 : rg 220 20 ckX = true := by decide +kernel
set_option maxRecDepth 1000000 in
theorem kX_240 : rg 240 18 ckX = true := by decide +kernel
