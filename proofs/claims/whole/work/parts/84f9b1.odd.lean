-- steps of odd order
set_option maxRecDepth 1000000 in
theorem o7_0 : ckO 0 A7 L7 r7_0 s7_0 c7_0 = true := by decide +kernel
set_option maxRecDepth 1000000 in
theorem o7_1 : ckO 1 A7 L7 r7_1 s7_1 c7_1 = true := by decide +kernel
set_option maxRecDepth 1000000 in
theorem o7_2 : ckO 2 A7 L7 r7_2 s7_2 c7_2 = true := by decide +kernel
set_option maxRecDepth 1000000 in
theorem o5_0 : ckO 0 A5 L5 r5_0 s5_0 c5_0 = true := by decide +kernel
set_option maxRecDepth 1000000 in
theorem o5_1 : ckO 1 A5 L5 r5_1 s5_1 c5_1 = true := by decide +kernel
set_option maxRecDepth 1000000 in
theorem o5_2 : ckO 2 A5 L5 r5_2 s5_2 c5_2 = true := by decide +kernel
set_option maxRecDepth 1000000 in
theorem o5_3 : ckO 3 A5 L5 r5_3 s5_3 c5_3 = true := by decide +kernel
