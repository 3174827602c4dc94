-- together
theorem kK {j : Nat} (hj : j < 258) : ckK j = true := by
  by_cases h0 : j < 65
  · exact rg_t kK_0 j (by omega) (by omega)
  by_cases h65 : j < 130
  · exact rg_t kK_65 j (by omega) (by omega)
  by_cases h130 : j < 195
  · exact rg_t kK_130 j (by omega) (by omega)
  by_cases h195 : j < 258
  · exact rg_t kK_195 j (by omega) (by omega)
  omega
