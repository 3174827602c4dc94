-- central maps of each group
set_option maxRecDepth 1000000 in
theorem kX_0 : rg 0 20 ckX = true := by decide +kernel
set_option maxRecDepth 1000000 in
theorem kX_20 : rg 20 20 ckX = true := by decide +kernel
set_option maxRecDepth 1000000 in
theorem kX_40 : rg 40 20 ckX = true := by decide +kernel
set_option maxRecDepth 1000000 in
theorem kX_60 : rg 60 20 ckX = true := by decide +kernel
set_option maxRecDepth 1000000 in
theorem kX_80 : rg 80 20 ckX = true := by decide +kernel
set_option maxRecDepth 1000000 in
theorem kX_100 : rg 100 20 ckX = true := by decide +kernel
set_option maxRecDepth 1000000 in
theorem kX_120 : rg 120 20 ckX = true := by decide +kernel
