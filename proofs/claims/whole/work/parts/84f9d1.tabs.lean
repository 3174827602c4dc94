-- the tables
set_option maxRecDepth 1000000 in
theorem kT_0 : rg 0 65 (fun j => bth (Nat.ble 1 (Nat.land (nt TB j) 65535)) (ckT (nt TB j) (gn j) (nt NS j))) = true := by decide +kernel
set_option maxRecDepth 1000000 in
theorem kT_65 : rg 65 65 (fun j => bth (Nat.ble 1 (Nat.land (nt TB j) 65535)) (ckT (nt TB j) (gn j) (nt NS j))) = true := by decide +kernel
set_option maxRecDepth 1000000 in
theorem kT_130 : rg 130 65 (fun j => bth (Nat.ble 1 (Nat.land (nt TB j) 65535)) (ckT (nt TB j) (gn j) (nt NS j))) = true := by decide +kernel
set_option maxRecDepth 1000000 in
theorem kT_195 : rg 195 63 (fun j => bth (Nat.ble 1 (Nat.land (nt TB j) 65535)) (ckT (nt TB j) (gn j) (nt NS j))) = true := by decide +kernel
