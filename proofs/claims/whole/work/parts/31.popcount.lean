set_option maxRecDepth 100000 in
theorem in_bc_0 : (List.range' 0 2048).all in_bcb = true := by decide +kernel
set_option maxRecDepth 100000 in
theorem in_bc_1 : (List.range' 2048 2048).all in_bcb = true := by decide +kernel
set_option maxRecDepth 100000 in
theorem in_bc_2 : (List.range' 4096 2048).all in_bcb = true := by decide +kernel
set_option maxRecDepth 100000 in
theorem in_bc_3 : (List.range' 6144 2048).all in_bcb = true := by decide +kernel
set_option maxRecDepth 100000 in
theorem in_bc_4 : (List.range' 8192 2048).all in_bcb = true := by decide +kernel
set_option maxRecDepth 100000 in
theorem in_bc_5 : (List.range' 10240 2048).all in_bcb = true := by decide +kernel
set_option maxRecDepth 100000 in
theorem in_bc_6 : (List.range' 12288 2048).all in_bcb = true := by decide +kernel
set_option maxRecDepth 100000 in
theorem in_bc_7 : (List.range' 14336 2048).all in_bcb = true := by decide +kernel
set_option maxRecDepth 100000 in
theorem in_bc_8 : (List.range' 16384 2048).all in_bcb = true := by decide +kernel
set_option maxRecDepth 100000 in
theorem in_bc_9 : (List.range' 18432 2048).all in_bcb = true := by decide +kernel
set_option maxRecDepth 100000 in
theorem in_bc_10 : (List.range' 20480 2048).all in_bcb = true := by decide +kernel
set_option maxRecDepth 100000 in
theorem in_bc_11 : (List.range' 22528 2048).all in_bcb = true := by decide +kernel
set_option maxRecDepth 100000 in
theorem in_bc_12 : (List.range' 24576 2048).all in_bcb = true := by decide +kernel
set_option maxRecDepth 100000 in
theorem in_bc_13 : (List.range' 26624 2048).all in_bcb = true := by decide +kernel
set_option maxRecDepth 100000 in
theorem in_bc_14 : (List.range' 28672 2048).all in_bcb = true := by decide +kernel
set_option maxRecDepth 100000 in
theorem in_bc_15 : (List.range' 30720 2048).all in_bcb = true := by decide +kernel
theorem in_bc_all {n : Nat} (hn : n < 32768) : in_bc (nI n) = nI (in_pc 15 n) := by
  rcases Nat.lt_or_ge n 2048 with h | h
  · exact of_decide_eq_true (List.all_eq_true.mp in_bc_0 n (by rw [List.mem_range'_1]; omega))
  rcases Nat.lt_or_ge n 4096 with h | h
  · exact of_decide_eq_true (List.all_eq_true.mp in_bc_1 n (by rw [List.mem_range'_1]; omega))
  rcases Nat.lt_or_ge n 6144 with h | h
  · exact of_decide_eq_true (List.all_eq_true.mp in_bc_2 n (by rw [List.mem_range'_1]; omega))
  rcases Nat.lt_or_ge n 8192 with h | h
  · exact of_decide_eq_true (List.all_eq_true.mp in_bc_3 n (by rw [List.mem_range'_1]; omega))
  rcases Nat.lt_or_ge n 10240 with h | h
  · exact of_decide_eq_true (List.all_eq_true.mp in_bc_4 n (by rw [List.mem_range'_1]; omega))
  rcases Nat.lt_or_ge n 12288 with h | h
  · exact of_decide_eq_true (List.all_eq_true.mp in_bc_5 n (by rw [List.mem_range'_1]; omega))
  rcases Nat.lt_or_ge n 14336 with h | h
  · exact of_decide_eq_true (List.all_eq_true.mp in_bc_6 n (by rw [List.mem_range'_1]; omega))
  rcases Nat.lt_or_ge n 16384 with h | h
  · exact of_decide_eq_true (List.all_eq_true.mp in_bc_7 n (by rw [List.mem_range'_1]; omega))
  rcases Nat.lt_or_ge n 18432 with h | h
  · exact of_decide_eq_true (List.all_eq_true.mp in_bc_8 n (by rw [List.mem_range'_1]; omega))
  rcases Nat.lt_or_ge n 20480 with h | h
  · exact of_decide_eq_true (List.all_eq_true.mp in_bc_9 n (by rw [List.mem_range'_1]; omega))
  rcases Nat.lt_or_ge n 22528 with h | h
  · exact of_decide_eq_true (List.all_eq_true.mp in_bc_10 n (by rw [List.mem_range'_1]; omega))
  rcases Nat.lt_or_ge n 24576 with h | h
  · exact of_decide_eq_true (List.all_eq_true.mp in_bc_11 n (by rw [List.mem_range'_1]; omega))
  rcases Nat.lt_or_ge n 26624 with h | h
  · exact of_decide_eq_true (List.all_eq_true.mp in_bc_12 n (by rw [List.mem_range'_1]; omega))
  rcases Nat.lt_or_ge n 28672 with h | h
  · exact of_decide_eq_true (List.all_eq_true.mp in_bc_13 n (by rw [List.mem_range'_1]; omega))
  rcases Nat.lt_or_ge n 30720 with h | h
  · exact of_decide_eq_true (List.all_eq_true.mp in_bc_14 n (by rw [List.mem_range'_1]; omega))
  rcases Nat.lt_or_ge n 32768 with h | h
  · exact of_decide_eq_true (List.all_eq_true.mp in_bc_15 n (by rw [List.mem_range'_1]; omega))
  · omega
theorem sp_bc {n : Nat} {M : px_Mem} {Q : px_Po} (hn : n < 32768) (h : Q (some (.int (nI (in_pc 15 n)))) M) : px_T 0 332 0 [some (.int (nI n))] [] M Q := by
  refine sg_332_0 ?_
  have e := in_bc_all hn
  unfold in_bc at e
  dsimp only at e
  rw [e]
  exact h
