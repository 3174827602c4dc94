-- steps of odd order
theorem o7_0 : ckO 0 A7 L7 r7_0 s7_0 c7_0 = true := by decide +kernel
theorem o7_1 : ckO 1 A7 L7 r7_1 s7_1 c7_1 = true := by decide +kernel
theorem o7_2 : ckO 2 A7 L7 r7_2 s7_2 c7_2 = true := by decide +kernel
theorem o5_0 : ckO 0 A5 L5 r5_0 s5_0 c5_0 = true := by decide +kernel
theorem o5_1 : ckO 1 A5 L5 r5_1 s5_1 c5_1 = true := by decide +kernel
theorem o5_2 : ckO 2 A5 L5 r5_2 s5_2 c5_2 = true := by decide +kernel
theorem o5_3 : ckO 3 A5 L5 r5_3 s5_3 c5_3 = true := by decide +kernel
theorem o5_4 : ckO 4 A5 L5 r5_4 s5_4 c5_4 = true := by decide +kernel
theorem o5_5 : ckO 5 A5 L5 r5_5 s5_5 c5_5 = true := by decide +kernel
theorem o3_0 : ckO 0 A3 L3 r3_0 s3_0 c3_0 = true := by decide +kernel
theorem o3_1 : ckO 1 A3 L3 r3_1 s3_1 c3_1 = true := by decide +kernel
theorem o3_2 : ckO 2 A3 L3 r3_2 s3_2 c3_2 = true := by decide +kernel
theorem o3_3 : ckO 3 A3 L3 r3_3 s3_3 c3_3 = true := by decide +kernel
theorem o3_4 : ckO 4 A3 L3 r3_4 s3_4 c3_4 = true := by decide +kernel
theorem o3_5 : ckO 5 A3 L3 r3_5 s3_5 c3_5 = true := by decide +kernel
theorem o3_6 : ckO 6 A3 L3 r3_6 s3_6 c3_6 = true := by decide +kernel
theorem o3_7 : ckO 7 A3 L3 r3_7 s3_7 c3_7 = true := by decide +kernel
theorem o3_8 : ckO 8 A3 L3 r3_8 s3_8 c3_8 = true := by decide +kernel
theorem o3_9 : ckO 9 A3 L3 r3_9 s3_9 c3_9 = true := by decide +kernel
theorem o3_10 : ckO 10 A3 L3 r3_10 s3_10 c3_10 = true := by decide +kernel
theorem o3_11 : ckO 11 A3 L3 r3_11 s3_11 c3_11 = true := by decide +kernel
theorem o3_12 : ckO 12 A3 L3 r3_12 s3_12 c3_12 = true := by decide +kernel
theorem o3_13 : ckO 13 A3 L3 r3_13 s3_13 c3_13 = true := by decide +kernel
theorem o3_14 : ckO 14 A3 L3 r3_14 s3_14 c3_14 = true := by decide +kernel
theorem o3_15 : ckO 15 A3 L3 r3_15 s3_15 c3_15 = true := by decide +kernel
theorem o3_16 : ckO 16 A3 L3 r3_16 s3_16 c3_16 = true := by decide +kernel
theorem o3_17 : ckO 17 A3 L3 r3_17 s3_17 c3_17 = true := by decide +kernel
theorem o3_18 : ckO 18 A3 L3 r3_18 s3_18 c3_18 = true := by decide +kernel
theorem oo7 : ∀ j, j ∈ A7 → ∃ R Z C, ckO j A7 L7 R Z C = true := by
  intro j hj
  rcases List.mem_cons.mp hj with rfl | hj
  · exact ⟨_, _, _, o7_0⟩
  rcases List.mem_cons.mp hj with rfl | hj
  · exact ⟨_, _, _, o7_1⟩
  rcases List.mem_cons.mp hj with rfl | hj
  · exact ⟨_, _, _, o7_2⟩
  cases hj
theorem oo5 : ∀ j, j ∈ A5 → ∃ R Z C, ckO j A5 L5 R Z C = true := by
  intro j hj
  rcases List.mem_cons.mp hj with rfl | hj
  · exact ⟨_, _, _, o5_0⟩
  rcases List.mem_cons.mp hj with rfl | hj
  · exact ⟨_, _, _, o5_1⟩
  rcases List.mem_cons.mp hj with rfl | hj
  · exact ⟨_, _, _, o5_2⟩
  rcases List.mem_cons.mp hj with rfl | hj
  · exact ⟨_, _, _, o5_3⟩
  rcases List.mem_cons.mp hj with rfl | hj
  · exact ⟨_, _, _, o5_4⟩
  rcases List.mem_cons.mp hj with rfl | hj
  · exact ⟨_, _, _, o5_5⟩
  cases hj
theorem oo3 : ∀ j, j ∈ A3 → ∃ R Z C, ckO j A3 L3 R Z C = true := by
  intro j hj
  rcases List.mem_cons.mp hj with rfl | hj
  · exact ⟨_, _, _, o3_0⟩
  rcases List.mem_cons.mp hj with rfl | hj
  · exact ⟨_, _, _, o3_1⟩
  rcases List.mem_cons.mp hj with rfl | hj
  · exact ⟨_, _, _, o3_2⟩
  rcases List.mem_cons.mp hj with rfl | hj
  · exact ⟨_, _, _, o3_3⟩
  rcases List.mem_cons.mp hj with rfl | hj
  · exact ⟨_, _, _, o3_4⟩
  rcases List.mem_cons.mp hj with rfl | hj
  · exact ⟨_, _, _, o3_5⟩
  rcases List.mem_cons.mp hj with rfl | hj
  · exact ⟨_, _, _, o3_6⟩
  rcases List.mem_cons.mp hj with rfl | hj
  · exact ⟨_, _, _, o3_7⟩
  rcases List.mem_cons.mp hj with rfl | hj
  · exact ⟨_, _, _, o3_8⟩
  rcases List.mem_cons.mp hj with rfl | hj
  · exact ⟨_, _, _, o3_9⟩
  rcases List.mem_cons.mp hj with rfl | hj
  · exact ⟨_, _, _, o3_10⟩
  rcases List.mem_cons.mp hj with rfl | hj
  · exact ⟨_, _, _, o3_11⟩
  rcases List.mem_cons.mp hj with rfl | hj
  · exact ⟨_, _, _, o3_12⟩
  rcases List.mem_cons.mp hj with rfl | hj
  · exact ⟨_, _, _, o3_13⟩
  rcases List.mem_cons.mp hj with rfl | hj
  · exact ⟨_, _, _, o3_14⟩
  rcases List.mem_cons.mp hj with rfl | hj
  · exact ⟨_, _, _, o3_15⟩
  rcases List.mem_cons.mp hj with rfl | hj
  · exact ⟨_, _, _, o3_16⟩
  rcases List.mem_cons.mp hj with rfl | hj
  · exact ⟨_, _, _, o3_17⟩
  rcases List.mem_cons.mp hj with rfl | hj
  · exact ⟨_, _, _, o3_18⟩
  cases hj
