-- conjugates of each group
theorem kK_0 : rg 0 65 ckK = true := by decide +kernel
theorem kK_65 : rg 65 65 ckK = true := by decide +kernel
theorem kK_130 : rg 130 65 ckK = true := by decide +kernel
theorem kK_195 : rg 195 63 ckK = true := by decide +kernel
theorem kK {j : Nat} (hj : j < 258) : ckK j = true := by
  by_cases h0 : j < 65
  · exact rg_t kK_0 j (by omega) (by omega)
  by_cases h65 : j < 130
  · exact rg_t kK_65 j (by omega) (by omega)
  by_cases h130 : j < 195
  · exact rg_t kK_130 j (by omega) (by omega)
  by_cases h195 : j < 258
  · exact rg_t kK_195 j (by omega) (by omega)
  omega
-- central maps of each group
theorem kX_0 : rg 0 20 ckX = true := by decide +kernel
theorem kX_20 : rg 20 20 ckX = true := by decide +kernel
theorem kX_40 : rg 40 20 ckX = true := by decide +kernel
theorem kX_60 : rg 60 20 ckX = true := by decide +kernel
theorem kX_80 : rg 80 20 ckX = true := by decide +kernel
theorem kX_100 : rg 100 20 ckX = true := by decide +kernel
theorem kX_120 : rg 120 20 ckX = true := by decide +kernel
theorem kX_140 : rg 140 20 ckX = true := by decide +kernel
theorem kX_160 : rg 160 20 ckX = true := by decide +kernel
theorem kX_180 : rg 180 20 ckX = true := by decide +kernel
theorem kX_200 : rg 200 20 ckX = true := by decide +kernel
theorem kX_220 : rg 220 20 ckX = true := by decide +kernel
theorem kX_240 : rg 240 18 ckX = true := by decide +kernel
theorem kX {j : Nat} (hj : j < 258) : ckX j = true := by
  by_cases h0 : j < 20
  · exact rg_t kX_0 j (by omega) (by omega)
  by_cases h20 : j < 40
  · exact rg_t kX_20 j (by omega) (by omega)
  by_cases h40 : j < 60
  · exact rg_t kX_40 j (by omega) (by omega)
  by_cases h60 : j < 80
  · exact rg_t kX_60 j (by omega) (by omega)
  by_cases h80 : j < 100
  · exact rg_t kX_80 j (by omega) (by omega)
  by_cases h100 : j < 120
  · exact rg_t kX_100 j (by omega) (by omega)
  by_cases h120 : j < 140
  · exact rg_t kX_120 j (by omega) (by omega)
  by_cases h140 : j < 160
  · exact rg_t kX_140 j (by omega) (by omega)
  by_cases h160 : j < 180
  · exact rg_t kX_160 j (by omega) (by omega)
  by_cases h180 : j < 200
  · exact rg_t kX_180 j (by omega) (by omega)
  by_cases h200 : j < 220
  · exact rg_t kX_200 j (by omega) (by omega)
  by_cases h220 : j < 240
  · exact rg_t kX_220 j (by omega) (by omega)
  by_cases h240 : j < 258
  · exact rg_t kX_240 j (by omega) (by omega)
  omega
