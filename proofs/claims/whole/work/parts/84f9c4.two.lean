-- steps of order 2
set_option maxRecDepth 1000000 in
theorem k2_180 : rg 180 10 (fun j => Bool.rec (ck2 L2 j (ntl C2 j)) true (Nat.ble 61 (nt NS j))) = true := by decide +kernel
set_option maxRecDepth 1000000 in
theorem k2_190 : rg 190 10 (fun j => Bool.rec (ck2 L2 j (ntl C2 j)) true (Nat.ble 61 (nt NS j))) = true := by decide +kernel
set_option maxRecDepth 1000000 in
theorem k2_200 : rg 200 10 (fun j => Bool.rec (ck2 L2 j (ntl C2 j)) true (Nat.ble 61 (nt NS j))) = true := by decide +kernel
set_option maxRecDepth 1000000 in
theorem k2_210 : rg 210 10 (fun j => Bool.rec (ck2 L2 j (ntl C2 j)) true (Nat.ble 61 (nt NS j))) = true := by decide +kernel
set_option maxRecDepth 1000000 in
theorem k2_220 : rg 220 10 (fun j => Bool.rec (ck2 L2 j (ntl C2 j)) true (Nat.ble 61 (nt NS j))) = true := by decide +kernel
set_option maxRecDepth 1000000 in
theorem k2_230 : rg 230 10 (fun j => Bool.rec (ck2 L2 j (ntl C2 j)) true (Nat.ble 61 (nt NS j))) = true := by decide +kernel
