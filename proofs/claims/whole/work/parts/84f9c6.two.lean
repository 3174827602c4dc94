-- together
theorem k2 {j : Nat} (hj : j < 258) : (Bool.rec (ck2 L2 j (ntl C2 j)) true (Nat.ble 61 (nt NS j)) : Bool) = true := by
  by_cases h0 : j < 10
  · exact rg_t k2_0 j (by omega) (by omega)
  by_cases h10 : j < 20
  · exact rg_t k2_10 j (by omega) (by omega)
  by_cases h20 : j < 30
  · exact rg_t k2_20 j (by omega) (by omega)
  by_cases h30 : j < 40
  · exact rg_t k2_30 j (by omega) (by omega)
  by_cases h40 : j < 50
  · exact rg_t k2_40 j (by omega) (by omega)
  by_cases h50 : j < 60
  · exact rg_t k2_50 j (by omega) (by omega)
  by_cases h60 : j < 70
  · exact rg_t k2_60 j (by omega) (by omega)
  by_cases h70 : j < 80
  · exact rg_t k2_70 j (by omega) (by omega)
  by_cases h80 : j < 90
  · exact rg_t k2_80 j (by omega) (by omega)
  by_cases h90 : j < 100
  · exact rg_t k2_90 j (by omega) (by omega)
  by_cases h100 : j < 110
  · exact rg_t k2_100 j (by omega) (by omega)
  by_cases h110 : j < 120
  · exact rg_t k2_110 j (by omega) (by omega)
  by_cases h120 : j < 130
  · exact rg_t k2_120 j (by omega) (by omega)
  by_cases h130 : j < 140
  · exact rg_t k2_130 j (by omega) (by omega)
  by_cases h140 : j < 150
  · exact rg_t k2_140 j (by omega) (by omega)
  by_cases h150 : j < 160
  · exact rg_t k2_150 j (by omega) (by omega)
  by_cases h160 : j < 170
  · exact rg_t k2_160 j (by omega) (by omega)
  by_cases h170 : j < 180
  · exact rg_t k2_170 j (by omega) (by omega)
  by_cases h180 : j < 190
  · exact rg_t k2_180 j (by omega) (by omega)
  by_cases h190 : j < 200
  · exact rg_t k2_190 j (by omega) (by omega)
  by_cases h200 : j < 210
  · exact rg_t k2_200 j (by omega) (by omega)
  by_cases h210 : j < 220
  · exact rg_t k2_210 j (by omega) (by omega)
  by_cases h220 : j < 230
  · exact rg_t k2_220 j (by omega) (by omega)
  by_cases h230 : j < 240
  · exact rg_t k2_230 j (by omega) (by omega)
  by_cases h240 : j < 250
  · exact rg_t k2_240 j (by omega) (by omega)
  by_cases h250 : j < 258
  · exact rg_t k2_250 j (by omega) (by omega)
  omega
