-- steps of odd order
set_option maxRecDepth 1000000 in
theorem o3_5 : ckO 5 A3 L3 r3_5 s3_5 c3_5 = true := by decide +kernel
set_option maxRecDepth 1000000 in
theorem o3_6 : ckO 6 A3 L3 r3_6 s3_6 c3_6 = true := by decide +kernel
set_option maxRecDepth 1000000 in
theorem o3_7 : ckO 7 A3 L3 r3_7 s3_7 c3_7 = true := by decide +kernel
set_option maxRecDepth 1000000 in
theorem o3_8 : ckO 8 A3 L3 r3_8 s3_8 c3_8 = true := by decide +kernel
set_option maxRecDepth 1000000 in
theorem o3_9 : ckO 9 A3 L3 r3_9 s3_9 c3_9 = true := by decide +kernel
set_option maxRecDepth 1000000 in
theorem o3_10 : ckO 10 A3 L3 r3_10 s3_10 c3_10 = true := by decide +kernel
set_option maxRecDepth 1000000 in
theorem o3_11 : ckO 11 A3 L3 r3_11 s3_11 c3_11 = true := by decide +kernel
