-- together
theorem kT {j : Nat} (hj : j < 258) : bth (Nat.ble 1 (Nat.land (nt TB j) 65535)) (ckT (nt TB j) (gn j) (nt NS j)) = true := by
  by_cases h0 : j < 65
  · exact rg_t kT_0 j (by omega) (by omega)
  by_cases h65 : j < 130
  · exact rg_t kT_65 j (by omega) (by omega)
  by_cases h130 : j < 195
  · exact rg_t kT_130 j (by omega) (by omega)
  by_cases h195 : j < 258
  · exact rg_t kT_195 j (by omega) (by omega)
  omega
