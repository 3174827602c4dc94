-- steps of odd order
set_option maxRecDepth 1000000 in
theorem o5_4 : ckO 4 A5 L5 r5_4 s5_4 c5_4 = true := by decide +kernel
set_option maxRecDepth 1000000 in
theorem o5_5 : ckO 5 A5 L5 r5_5 s5_5 c5_5 = true := by decide +kernel
set_option maxRecDepth 1000000 in
theorem o3_0 : ckO 0 A3 L3 r3_0 s3_0 c3_0 = true := by decide +kernel
set_option maxRecDepth 1000000 in
theorem o3_1 : ckO 1 A3 L3 r3_1 s3_1 c3_1 = true := by decide +kernel
set_option maxRecDepth 1000000 in
theorem o3_2 : ckO 2 A3 L3 r3_2 s3_2 c3_2 = true := by decide +kernel
set_option maxRecDepth 1000000 in
theorem o3_3 : ckO 3 A3 L3 r3_3 s3_3 c3_3 = true := by decide +kernel
set_option maxRecDepth 1000000 in
theorem o3_4 : ckO 4 A3 L3 r3_4 s3_4 c3_4 = true := by decide +kernel
