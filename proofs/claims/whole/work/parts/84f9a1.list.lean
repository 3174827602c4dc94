-- all elements of order 7, 5, 3 and 2, 4, 8 are in the lists
set_option maxRecDepth 1000000 in
theorem e7_0 : ef q7 Nat.beq 7 (Nat.shiftLeft 1 0) 0 (flW 24 512 L7_0) (fun _ => true) = true := by decide +kernel
set_option maxRecDepth 1000000 in
theorem e7_1 : ef q7 Nat.beq 7 (Nat.shiftLeft 1 1) 1 (flW 24 512 L7_1) (fun _ => true) = true := by decide +kernel
set_option maxRecDepth 1000000 in
theorem e7_2 : ef q7 Nat.beq 7 (Nat.shiftLeft 1 2) 2 (flW 24 512 L7_2) (fun _ => true) = true := by decide +kernel
set_option maxRecDepth 1000000 in
theorem e7_3 : ef q7 Nat.beq 7 (Nat.shiftLeft 1 3) 3 (flW 24 512 L7_3) (fun _ => true) = true := by decide +kernel
set_option maxRecDepth 1000000 in
theorem e7_4 : ef q7 Nat.beq 7 (Nat.shiftLeft 1 4) 4 (flW 24 512 L7_4) (fun _ => true) = true := by decide +kernel
set_option maxRecDepth 1000000 in
theorem e7_5 : ef q7 Nat.beq 7 (Nat.shiftLeft 1 5) 5 (flW 24 512 L7_5) (fun _ => true) = true := by decide +kernel
set_option maxRecDepth 1000000 in
theorem e7_6 : ef q7 Nat.beq 7 (Nat.shiftLeft 1 6) 6 (flW 24 512 L7_6) (fun _ => true) = true := by decide +kernel
set_option maxRecDepth 1000000 in
theorem e7_7 : ef q7 Nat.beq 7 (Nat.shiftLeft 1 7) 7 (flW 24 512 L7_7) (fun _ => true) = true := by decide +kernel
set_option maxRecDepth 1000000 in
theorem e5_0 : ef q5 Nat.beq 7 (Nat.shiftLeft 1 0) 0 (flW 24 512 L5_0) (fun _ => true) = true := by decide +kernel
set_option maxRecDepth 1000000 in
theorem e5_1 : ef q5 Nat.beq 7 (Nat.shiftLeft 1 1) 1 (flW 24 512 L5_1) (fun _ => true) = true := by decide +kernel
set_option maxRecDepth 1000000 in
theorem e5_2 : ef q5 Nat.beq 7 (Nat.shiftLeft 1 2) 2 (flW 24 512 L5_2) (fun _ => true) = true := by decide +kernel
set_option maxRecDepth 1000000 in
theorem e5_3 : ef q5 Nat.beq 7 (Nat.shiftLeft 1 3) 3 (flW 24 512 L5_3) (fun _ => true) = true := by decide +kernel
set_option maxRecDepth 1000000 in
theorem e5_4 : ef q5 Nat.beq 7 (Nat.shiftLeft 1 4) 4 (flW 24 512 L5_4) (fun _ => true) = true := by decide +kernel
set_option maxRecDepth 1000000 in
theorem e5_5 : ef q5 Nat.beq 7 (Nat.shiftLeft 1 5) 5 (flW 24 512 L5_5) (fun _ => true) = true := by decide +kernel
set_option maxRecDepth 1000000 in
theorem e5_6 : ef q5 Nat.beq 7 (Nat.shiftLeft 1 6) 6 (flW 24 512 L5_6) (fun _ => true) = true := by decide +kernel
set_option maxRecDepth 1000000 in
theorem e5_7 : ef q5 Nat.beq 7 (Nat.shiftLeft 1 7) 7 (flW 24 512 L5_7) (fun _ => true) = true := by decide +kernel
