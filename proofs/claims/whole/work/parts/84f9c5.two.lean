-- steps of order 2
set_option maxRecDepth 1000000 in
theorem k2_240 : rg 240 10 (fun j => Bool.rec (ck2 L2 j (ntl C2 j)) true (Nat.ble 61 (nt NS j))) = true := by decide +kernel
set_option maxRecDepth 1000000 in
theorem k2_250 : rg 250 8 (fun j => Bool.rec (ck2 L2 j (ntl C2 j)) true (Nat.ble 61 (nt NS j))) = true := by decide +kernel
