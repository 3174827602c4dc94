-- all elements of order 7, 5, 3 and 2, 4, 8 are in the lists
set_option maxRecDepth 1000000 in
theorem e3_0 : ef q3 Nat.beq 7 (Nat.shiftLeft 1 0) 0 (flW 24 512 L3_0) (fun _ => true) = true := by decide +kernel
set_option maxRecDepth 1000000 in
theorem e3_1 : ef q3 Nat.beq 7 (Nat.shiftLeft 1 1) 1 (flW 24 512 L3_1) (fun _ => true) = true := by decide +kernel
set_option maxRecDepth 1000000 in
theorem e3_2 : ef q3 Nat.beq 7 (Nat.shiftLeft 1 2) 2 (flW 24 512 L3_2) (fun _ => true) = true := by decide +kernel
set_option maxRecDepth 1000000 in
theorem e3_3 : ef q3 Nat.beq 7 (Nat.shiftLeft 1 3) 3 (flW 24 512 L3_3) (fun _ => true) = true := by decide +kernel
set_option maxRecDepth 1000000 in
theorem e3_4 : ef q3 Nat.beq 7 (Nat.shiftLeft 1 4) 4 (flW 24 512 L3_4) (fun _ => true) = true := by decide +kernel
set_option maxRecDepth 1000000 in
theorem e3_5 : ef q3 Nat.beq 7 (Nat.shiftLeft 1 5) 5 (flW 24 512 L3_5) (fun _ => true) = true := by decide +kernel
set_option maxRecDepth 1000000 in
theorem e3_6 : ef q3 Nat.beq 7 (Nat.shiftLeft 1 6) 6 (flW 24 512 L3_6) (fun _ => true) = true := by decide +kernel
set_option maxRecDepth 1000000 in
theorem e3_7 : ef q3 Nat.beq 7 (Nat.shiftLeft 1 7) 7 (flW 24 512 L3_7) (fun _ => true) = true := by decide +kernel
set_option maxRecDepth 1000000 in
theorem e2_0 : ef q8 k8 7 (Nat.shiftLeft 1 0) 0 (flW 48 512 L2_0) (fun _ => true) = true := by decide +kernel
set_option maxRecDepth 1000000 in
theorem e2_1 : ef q8 k8 7 (Nat.shiftLeft 1 1) 1 (flW 48 512 L2_1) (fun _ => true) = true := by decide +kernel
set_option maxRecDepth 1000000 in
theorem e2_2 : ef q8 k8 7 (Nat.shiftLeft 1 2) 2 (flW 48 512 L2_2) (fun _ => true) = true := by decide +kernel
set_option maxRecDepth 1000000 in
theorem e2_3 : ef q8 k8 7 (Nat.shiftLeft 1 3) 3 (flW 48 512 L2_3) (fun _ => true) = true := by decide +kernel
set_option maxRecDepth 1000000 in
theorem e2_4 : ef q8 k8 7 (Nat.shiftLeft 1 4) 4 (flW 48 512 L2_4) (fun _ => true) = true := by decide +kernel
set_option maxRecDepth 1000000 in
theorem e2_5 : ef q8 k8 7 (Nat.shiftLeft 1 5) 5 (flW 48 512 L2_5) (fun _ => true) = true := by decide +kernel
set_option maxRecDepth 1000000 in
theorem e2_6 : ef q8 k8 7 (Nat.shiftLeft 1 6) 6 (flW 48 512 L2_6) (fun _ => true) = true := by decide +kernel
set_option maxRecDepth 1000000 in
theorem e2_7 : ef q8 k8 7 (Nat.shiftLeft 1 7) 7 (flW 48 512 L2_7) (fun _ => true) = true := by decide +kernel
