-- together
theorem oo7 : ∀ j, j ∈ A7 → ∃ R Z C, ckO j A7 L7 R Z C = true := by
  intro j hj
  rcases List.mem_cons.mp hj with rfl | hj
  · exact ⟨_, _, _, o7_0⟩
  rcases List.mem_cons.mp hj with rfl | hj
  · exact ⟨_, _, _, o7_1⟩
  rcases List.mem_cons.mp hj with rfl | hj
  · exact ⟨_, _, _, o7_2⟩
  cases hj
theorem oo5 : ∀ j, j ∈ A5 → ∃ R Z C, ckO j A5 L5 R Z C = true := by
  intro j hj
  rcases List.mem_cons.mp hj with rfl | hj
  · exact ⟨_, _, _, o5_0⟩
  rcases List.mem_cons.mp hj with rfl | hj
  · exact ⟨_, _, _, o5_1⟩
  rcases List.mem_cons.mp hj with rfl | hj
  · exact ⟨_, _, _, o5_2⟩
  rcases List.mem_cons.mp hj with rfl | hj
  · exact ⟨_, _, _, o5_3⟩
  rcases List.mem_cons.mp hj with rfl | hj
  · exact ⟨_, _, _, o5_4⟩
  rcases List.mem_cons.mp hj with rfl | hj
  · exact ⟨_, _, _, o5_5⟩
  cases hj
theorem oo3 : ∀ j, j ∈ A3 → ∃ R Z C, ckO j A3 L3 R Z C = true := by
  intro j hj
  rcases List.mem_cons.mp hj with rfl | hj
  · exact ⟨_, _, _, o3_0⟩
  rcases List.mem_cons.mp hj with rfl | hj
  · exact ⟨_, _, _, o3_1⟩
  rcases List.mem_cons.mp hj with rfl | hj
  · exact ⟨_, _, _, o3_2⟩
  rcases List.mem_cons.mp hj with rfl | hj
  · exact ⟨_, _, _, o3_3⟩
  rcases List.mem_cons.mp hj with rfl | hj
  · exact ⟨_, _, _, o3_4⟩
  rcases List.mem_cons.mp hj with rfl | hj
  · exact ⟨_, _, _, o3_5⟩
  rcases List.mem_cons.mp hj with rfl | hj
  · exact ⟨_, _, _, o3_6⟩
  rcases List.mem_cons.mp hj with rfl | hj
  · exact ⟨_, _, _, o3_7⟩
  rcases List.mem_cons.mp hj with rfl | hj
  · exact ⟨_, _, _, o3_8⟩
  rcases List.mem_cons.mp hj with rfl | hj
  · exact ⟨_, _, _, o3_9⟩
  rcases List.mem_cons.mp hj with rfl | hj
  · exact ⟨_, _, _, o3_10⟩
  rcases List.mem_cons.mp hj with rfl | hj
  · exact ⟨_, _, _, o3_11⟩
  rcases List.mem_cons.mp hj with rfl | hj
  · exact ⟨_, _, _, o3_12⟩
  rcases List.mem_cons.mp hj with rfl | hj
  · exact ⟨_, _, _, o3_13⟩
  rcases List.mem_cons.mp hj with rfl | hj
  · exact ⟨_, _, _, o3_14⟩
  rcases List.mem_cons.mp hj with rfl | hj
  · exact ⟨_, _, _, o3_15⟩
  rcases List.mem_cons.mp hj with rfl | hj
  · exact ⟨_, _, _, o3_16⟩
  rcases List.mem_cons.mp hj with rfl | hj
  · exact ⟨_, _, _, o3_17⟩
  rcases List.mem_cons.mp hj with rfl | hj
  · exact ⟨_, _, _, o3_18⟩
  cases hj
