-- steps of odd order
set_option maxRecDepth 1000000 in
theorem o3_12 : ckO 12 A3 L3 r3_12 s3_12 c3_12 = true := by decide +kernel
set_option maxRecDepth 1000000 in
theorem o3_13 : ckO 13 A3 L3 r3_13 s3_13 c3_13 = true := by decide +kernel
set_option maxRecDepth 1000000 in
theorem o3_14 : ckO 14 A3 L3 r3_14 s3_14 c3_14 = true := by decide +kernel
set_option maxRecDepth 1000000 in
theorem o3_15 : ckO 15 A3 L3 r3_15 s3_15 c3_15 = true := by decide +kernel
set_option maxRecDepth 1000000 in
theorem o3_16 : ckO 16 A3 L3 r3_16 s3_16 c3_16 = true := by decide +kernel
set_option maxRecDepth 1000000 in
theorem o3_17 : ckO 17 A3 L3 r3_17 s3_17 c3_17 = true := by decide +kernel
set_option maxRecDepth 1000000 in
theorem o3_18 : ckO 18 A3 L3 r3_18 s3_18 c3_18 = true := by decide +kernel
