-- put together: every group of at most 120 permutations is one of the tables
theorem all_tO : ∀ j, j < 258 → ∃ S, tO j S := fun j hj => by
  obtain ⟨h1, h2⟩ := bth_t.mp (kT hj)
  exact ckT_t (Nat.le_of_ble_eq_true h1) h2
theorem s7_all (d : Nat) (hd : d < 8) : ∃ s, ef q7 Nat.beq 7 (Nat.shiftLeft 1 d) d s (fun _ => true) = true ∧ ∀ x, x ∈ s → x ∈ flW 24 512 L7 := by
  unfold L7
  simp only [fl_app, List.mem_append]
  match d, hd with
  | 0, _ => exact ⟨_, e7_0, fun x hx => Or.inl hx⟩
  | 1, _ => exact ⟨_, e7_1, fun x hx => Or.inr (Or.inl hx)⟩
  | 2, _ => exact ⟨_, e7_2, fun x hx => Or.inr (Or.inr (Or.inl hx))⟩
  | 3, _ => exact ⟨_, e7_3, fun x hx => Or.inr (Or.inr (Or.inr (Or.inl hx)))⟩
  | 4, _ => exact ⟨_, e7_4, fun x hx => Or.inr (Or.inr (Or.inr (Or.inr (Or.inl hx))))⟩
  | 5, _ => exact ⟨_, e7_5, fun x hx => Or.inr (Or.inr (Or.inr (Or.inr (Or.inr (Or.inl hx)))))⟩
  | 6, _ => exact ⟨_, e7_6, fun x hx => Or.inr (Or.inr (Or.inr (Or.inr (Or.inr (Or.inr (Or.inl hx))))))⟩
  | 7, _ => exact ⟨_, e7_7, fun x hx => Or.inr (Or.inr (Or.inr (Or.inr (Or.inr (Or.inr (Or.inr (hx)))))))⟩
theorem s5_all (d : Nat) (hd : d < 8) : ∃ s, ef q5 Nat.beq 7 (Nat.shiftLeft 1 d) d s (fun _ => true) = true ∧ ∀ x, x ∈ s → x ∈ flW 24 512 L5 := by
  unfold L5
  simp only [fl_app, List.mem_append]
  match d, hd with
  | 0, _ => exact ⟨_, e5_0, fun x hx => Or.inl hx⟩
  | 1, _ => exact ⟨_, e5_1, fun x hx => Or.inr (Or.inl hx)⟩
  | 2, _ => exact ⟨_, e5_2, fun x hx => Or.inr (Or.inr (Or.inl hx))⟩
  | 3, _ => exact ⟨_, e5_3, fun x hx => Or.inr (Or.inr (Or.inr (Or.inl hx)))⟩
  | 4, _ => exact ⟨_, e5_4, fun x hx => Or.inr (Or.inr (Or.inr (Or.inr (Or.inl hx))))⟩
  | 5, _ => exact ⟨_, e5_5, fun x hx => Or.inr (Or.inr (Or.inr (Or.inr (Or.inr (Or.inl hx)))))⟩
  | 6, _ => exact ⟨_, e5_6, fun x hx => Or.inr (Or.inr (Or.inr (Or.inr (Or.inr (Or.inr (Or.inl hx))))))⟩
  | 7, _ => exact ⟨_, e5_7, fun x hx => Or.inr (Or.inr (Or.inr (Or.inr (Or.inr (Or.inr (Or.inr (hx)))))))⟩
theorem s3_all (d : Nat) (hd : d < 8) : ∃ s, ef q3 Nat.beq 7 (Nat.shiftLeft 1 d) d s (fun _ => true) = true ∧ ∀ x, x ∈ s → x ∈ flW 24 512 L3 := by
  unfold L3
  simp only [fl_app, List.mem_append]
  match d, hd with
  | 0, _ => exact ⟨_, e3_0, fun x hx => Or.inl hx⟩
  | 1, _ => exact ⟨_, e3_1, fun x hx => Or.inr (Or.inl hx)⟩
  | 2, _ => exact ⟨_, e3_2, fun x hx => Or.inr (Or.inr (Or.inl hx))⟩
  | 3, _ => exact ⟨_, e3_3, fun x hx => Or.inr (Or.inr (Or.inr (Or.inl hx)))⟩
  | 4, _ => exact ⟨_, e3_4, fun x hx => Or.inr (Or.inr (Or.inr (Or.inr (Or.inl hx))))⟩
  | 5, _ => exact ⟨_, e3_5, fun x hx => Or.inr (Or.inr (Or.inr (Or.inr (Or.inr (Or.inl hx)))))⟩
  | 6, _ => exact ⟨_, e3_6, fun x hx => Or.inr (Or.inr (Or.inr (Or.inr (Or.inr (Or.inr (Or.inl hx))))))⟩
  | 7, _ => exact ⟨_, e3_7, fun x hx => Or.inr (Or.inr (Or.inr (Or.inr (Or.inr (Or.inr (Or.inr (hx)))))))⟩
theorem s2_all (d : Nat) (hd : d < 8) : ∃ s, ef q8 k8 7 (Nat.shiftLeft 1 d) d s (fun _ => true) = true ∧ ∀ x, x ∈ s → x ∈ flW 48 512 L2 := by
  unfold L2
  simp only [fl_app, List.mem_append]
  match d, hd with
  | 0, _ => exact ⟨_, e2_0, fun x hx => Or.inl hx⟩
  | 1, _ => exact ⟨_, e2_1, fun x hx => Or.inr (Or.inl hx)⟩
  | 2, _ => exact ⟨_, e2_2, fun x hx => Or.inr (Or.inr (Or.inl hx))⟩
  | 3, _ => exact ⟨_, e2_3, fun x hx => Or.inr (Or.inr (Or.inr (Or.inl hx)))⟩
  | 4, _ => exact ⟨_, e2_4, fun x hx => Or.inr (Or.inr (Or.inr (Or.inr (Or.inl hx))))⟩
  | 5, _ => exact ⟨_, e2_5, fun x hx => Or.inr (Or.inr (Or.inr (Or.inr (Or.inr (Or.inl hx)))))⟩
  | 6, _ => exact ⟨_, e2_6, fun x hx => Or.inr (Or.inr (Or.inr (Or.inr (Or.inr (Or.inr (Or.inl hx))))))⟩
  | 7, _ => exact ⟨_, e2_7, fun x hx => Or.inr (Or.inr (Or.inr (Or.inr (Or.inr (Or.inr (Or.inr (hx)))))))⟩
theorem e7_all (g : Nat) (hg : isP g) (hq : q7 g = true) : g ∈ flW 24 512 L7 := by
  obtain ⟨x, hx, e⟩ := en_go s7_all hg hq
  rw [← Nat.eq_of_beq_eq_true e]
  exact hx
theorem e5_all (g : Nat) (hg : isP g) (hq : q5 g = true) : g ∈ flW 24 512 L5 := by
  obtain ⟨x, hx, e⟩ := en_go s5_all hg hq
  rw [← Nat.eq_of_beq_eq_true e]
  exact hx
theorem e3_all (g : Nat) (hg : isP g) (hq : q3 g = true) : g ∈ flW 24 512 L3 := by
  obtain ⟨x, hx, e⟩ := en_go s3_all hg hq
  rw [← Nat.eq_of_beq_eq_true e]
  exact hx
set_option maxRecDepth 1000000 in
theorem od_all : alW A3 (fun j => alW (gn j) (fun g => Nat.beq (qp g 105) 342391)) = true := by decide +kernel
theorem a3_lt : alW A3 (fun j => Nat.ble (Nat.succ j) 258) = true := by decide +kernel
theorem a53 : alW A5 (fun j => el j A3) = true := by decide +kernel
theorem a75 : alW A7 (fun j => el j A5) = true := by decide +kernel
theorem gn_0 : gn 0 = [pid] := by decide +kernel
theorem grp_all {G : List Nat} (hG : grO G) : ∃ φ G' j' S', isoO φ G G' ∧ grO G' ∧ j' < 258 ∧ tO j' S' ∧ ∀ x, x ∈ S' ↔ x ∈ G' := by
  have h3n : ∀ j, j ∈ A3 → j < 258 := fun j hj => Nat.le_of_ble_eq_true (al_t.mp a3_lt j hj)
  refine cls_all all_tO (A7 := A7) (A5 := A5) (A3 := A3) (L7 := L7) (L5 := L5) (L3 := L3) (L2 := L2) List.mem_cons_self gn_0 (fun j hj => el_t.mp (al_t.mp a75 j hj)) (fun j hj => el_t.mp (al_t.mp a53 j hj)) h3n oo7 oo5 oo3 e7_all e5_all e3_all (fun j hj g hg => ?_) (fun j hj h60 => ?_) (fun g hg hq => en_go s2_all hg hq) hG
  · have h1 := Nat.eq_of_beq_eq_true (al_t.mp (al_t.mp od_all j hj) g hg)
    rw [qp_eq] at h1
    exact h1
  · have h1 := k2 hj
    cases hb : Nat.ble 61 (nt NS j) with
    | true =>
      have := Nat.le_of_ble_eq_true hb
      omega
    | false =>
      rw [hb] at h1
      exact ⟨_, h1⟩
