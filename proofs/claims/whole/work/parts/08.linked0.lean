set_option maxRecDepth 100000 in
theorem px_wm_0 : (List.range' 0 35).all px_wm = true := by decide +kernel
set_option maxRecDepth 100000 in
theorem px_wm_35 : (List.range' 35 35).all px_wm = true := by decide +kernel
set_option maxRecDepth 100000 in
theorem px_wm_70 : (List.range' 70 35).all px_wm = true := by decide +kernel
set_option maxRecDepth 100000 in
theorem px_wm_105 : (List.range' 105 35).all px_wm = true := by decide +kernel
set_option maxRecDepth 100000 in
theorem px_wm_140 : (List.range' 140 35).all px_wm = true := by decide +kernel
set_option maxRecDepth 100000 in
theorem px_wm_175 : (List.range' 175 35).all px_wm = true := by decide +kernel
set_option maxRecDepth 100000 in
theorem px_wm_210 : (List.range' 210 35).all px_wm = true := by decide +kernel
set_option maxRecDepth 100000 in
theorem px_wm_245 : (List.range' 245 35).all px_wm = true := by decide +kernel
set_option maxRecDepth 100000 in
theorem px_wm_280 : (List.range' 280 35).all px_wm = true := by decide +kernel
set_option maxRecDepth 100000 in
theorem px_wm_315 : (List.range' 315 27).all px_wm = true := by decide +kernel
theorem px_wm_all (k : Nat) (hk : k < px_LAW) : px_wm k = true := by
  have hk2 : k < 342 := hk
  rcases Nat.lt_or_ge k 35 with h | h
  · exact List.all_eq_true.mp px_wm_0 k (by rw [List.mem_range'_1]; omega)
  rcases Nat.lt_or_ge k 70 with h | h
  · exact List.all_eq_true.mp px_wm_35 k (by rw [List.mem_range'_1]; omega)
  rcases Nat.lt_or_ge k 105 with h | h
  · exact List.all_eq_true.mp px_wm_70 k (by rw [List.mem_range'_1]; omega)
  rcases Nat.lt_or_ge k 140 with h | h
  · exact List.all_eq_true.mp px_wm_105 k (by rw [List.mem_range'_1]; omega)
  rcases Nat.lt_or_ge k 175 with h | h
  · exact List.all_eq_true.mp px_wm_140 k (by rw [List.mem_range'_1]; omega)
  rcases Nat.lt_or_ge k 210 with h | h
  · exact List.all_eq_true.mp px_wm_175 k (by rw [List.mem_range'_1]; omega)
  rcases Nat.lt_or_ge k 245 with h | h
  · exact List.all_eq_true.mp px_wm_210 k (by rw [List.mem_range'_1]; omega)
  rcases Nat.lt_or_ge k 280 with h | h
  · exact List.all_eq_true.mp px_wm_245 k (by rw [List.mem_range'_1]; omega)
  rcases Nat.lt_or_ge k 315 with h | h
  · exact List.all_eq_true.mp px_wm_280 k (by rw [List.mem_range'_1]; omega)
  rcases Nat.lt_or_ge k 342 with h | h
  · exact List.all_eq_true.mp px_wm_315 k (by rw [List.mem_range'_1]; omega)
  · omega
