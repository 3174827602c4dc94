-- steps of order 2
set_option maxRecDepth 1000000 in
theorem k2_60 : rg 60 10 (fun j => Bool.rec (ck2 L2 j (ntl C2 j)) true (Nat.ble 61 (nt NS j))) = true := by decide +kernel
set_option maxRecDepth 1000000 in
theorem k2_70 : rg 70 10 (fun j => Bool.rec (ck2 L2 j (ntl C2 j)) true (Nat.ble 61 (nt NS j))) = true := by decide +kernel
set_option maxRecDepth 1000000 in
theorem k2_80 : rg 80 10 (fun j => Bool.rec (ck2 L2 j (ntl C2 j)) true (Nat.ble 61 (nt NS j))) = true := by decide +kernel
set_option maxRecDepth 1000000 in
theorem k2_90 : rg 90 10 (fun j => Bool.rec (ck2 L2 j (ntl C2 j)) true (Nat.ble 61 (nt NS j))) = true := by decide +kernel
set_option maxRecDepth 1000000 in
theorem k2_100 : rg 100 10 (fun j => Bool.rec (ck2 L2 j (ntl C2 j)) true (Nat.ble 61 (nt NS j))) = true := by decide +kernel
set_option maxRecDepth 1000000 in
theorem k2_110 : rg 110 10 (fun j => Bool.rec (ck2 L2 j (ntl C2 j)) true (Nat.ble 61 (nt NS j))) = true := by decide +kernel
