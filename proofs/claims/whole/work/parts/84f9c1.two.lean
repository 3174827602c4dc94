-- steps of order 2
set_option maxRecDepth 1000000 in
theorem k2_0 : rg 0 10 (fun j => Bool.rec (ck2 L2 j (ntl C2 j)) true (Nat.ble 61 (nt NS j))) = true := by decide +kernel
set_option maxRecDepth 1000000 in
theorem k2_10 : rg 10 10 (fun j => Bool.rec (ck2 L2 j (ntl C2 j)) true (Nat.ble 61 (nt NS j))) = true := by decide +kernel
set_option maxRecDepth 1000000 in
theorem k2_20 : rg 20 10 (fun j => Bool.rec (ck2 L2 j (ntl C2 j)) true (Nat.ble 61 (nt NS j))) = true := by decide +kernel
set_option maxRecDepth 1000000 in
theorem k2_30 : rg 30 10 (fun j => Bool.rec (ck2 L2 j (ntl C2 j)) true (Nat.ble 61 (nt NS j))) = true := by decide +kernel
set_option maxRecDepth 1000000 in
theorem k2_40 : rg 40 10 (fun j => Bool.rec (ck2 L2 j (ntl C2 j)) true (Nat.ble 61 (nt NS j))) = true := by decide +kernel
set_option maxRecDepth 1000000 in
theorem k2_50 : rg 50 10 (fun j => Bool.rec (ck2 L2 j (ntl C2 j)) true (Nat.ble 61 (nt NS j))) = true := by decide +kernel
