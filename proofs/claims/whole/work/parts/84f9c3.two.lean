-- steps of order 2
set_option maxRecDepth 1000000 in
theorem k2_120 : rg 120 10 (fun j => Bool.rec (ck2 L2 j (ntl C2 j)) true (Nat.ble 61 (nt NS j))) = true := by decide +kernel
set_option maxRecDepth 1000000 in
theorem k2_130 : rg 130 10 (fun j => Bool.rec (ck2 L2 j (ntl C2 j)) true (Nat.ble 61 (nt NS j))) = true := by decide +kernel
set_option maxRecDepth 1000000 in
theorem k2_140 : rg 140 10 (fun j => Bool.rec (ck2 L2 j (ntl C2 j)) true (Nat.ble 61 (nt NS j))) = true := by decide +kernel
set_option maxRecDepth 1000000 in
theorem k2_150 : rg 150 10 (fun j => Bool.rec (ck2 L2 j (ntl C2 j)) true (Nat.ble 61 (nt NS j))) = true := by decide +kernel
set_option maxRecDepth 1000000 in
theorem k2_160 : rg 160 10 (fun j => Bool.rec (ck2 L2 j (ntl C2 j)) true (Nat.ble 61 (nt NS j))) = true := by decide +kernel
set_option maxRecDepth 1000000 in
theorem k2_170 : rg 170 10 (fun j => Bool.rec (ck2 L2 j (ntl C2 j)) true (Nat.ble 61 (nt NS j))) = true := by decide +kernel
