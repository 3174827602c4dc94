-- together
theorem kX {j : Nat} (hj : j < 258) : ckX j = true := by
  by_cases h0 : j < 20
  · exact rg_t kX_0 j (by omega) (by omega)
  by_cases h20 : j < 40
  · exact rg_t kX_20 j (by omega) (by omega)
  by_cases h40 : j < 60
  · exact rg_t kX_40 j (by omega) (by omega)
  by_cases h60 : j < 80
  · exact rg_t kX_60 j (by omega) (by omega)
  by_cases h80 : j < 100
  · exact rg_t kX_80 j (by omega) (by omega)
  by_cases h100 : j < 120
  · exact rg_t kX_100 j (by omega) (by omega)
  by_cases h120 : j < 140
  · exact rg_t kX_120 j (by omega) (by omega)
  by_cases h140 : j < 160
  · exact rg_t kX_140 j (by omega) (by omega)
  by_cases h160 : j < 180
  · exact rg_t kX_160 j (by omega) (by omega)
  by_cases h180 : j < 200
  · exact rg_t kX_180 j (by omega) (by omega)
  by_cases h200 : j < 220
  · exact rg_t kX_200 j (by omega) (by omega)
  by_cases h220 : j < 240
  · exact rg_t kX_220 j (by omega) (by omega)
  by_cases h240 : j < 258
  · exact rg_t kX_240 j (by omega) (by omega)
  omega
