set_option maxRecDepth 100000 in
theorem px_wm_0 : (List.range' 0 35).all px_wm = true := by decide +kernel
set_option maxRecDepth 100000 in
theorem px_wm_35 : (List.range' 35 35).all px_wm = true := by decide +kernel
set_option maxRecDepth 100000 in
theorem px_wm_70 : (List.range' 70 35).all px_wm = true := by decide +kernel
set_option maxRecDepth 100000 in
theorem px_wm_105 : (List.range' 105 35).all px_wm = true := by decide +kernel
set_option maxRecDepth 100000 in
theorem px_wm_140 : (List.range' 140 35).all px_wm = true := by decide +kernel
set_option maxRecDepth 100000 in
theorem px_wm_175 : (List.range' 175 35).all px_wm = true := by decide +kernel
set_option maxRecDepth 100000 in
theorem px_wm_210 : (List.range' 210 35).all px_wm = true := by decide +kernel
set_option maxRecDepth 100000 in
theorem px_wm_245 : (List.range' 245 35).all px_wm = true := by decide +kernel
set_option maxRecDepth 100000 in
theorem px_wm_280 : (List.range' 280 35).all px_wm = true := by decide +kernel
set_option maxRecDepth 100000 in
theorem px_wm_315 : (List.range' 315 34).all px_wm = true := by decide +kernel
theorem px_wm_all (k : Nat) (hk : k < px_LAW) : px_wm k = true := by
  have hk2 : k < 349 := hk
  rcases Nat.lt_or_ge k 35 with h | h
  · exact List.all_eq_true.mp px_wm_0 k (by rw [List.mem_range'_1]; omega)
  rcases Nat.lt_or_ge k 70 with h | h
  · exact List.all_eq_true.mp px_wm_35 k (by rw [List.mem_range'_1]; omega)
  rcases Nat.lt_or_ge k 105 with h | h
  · exact List.all_eq_true.mp px_wm_70 k (by rw [List.mem_range'_1]; omega)
  rcases Nat.lt_or_ge k 140 with h | h
  · exact List.all_eq_true.mp px_wm_105 k (by rw [List.mem_range'_1]; omega)
  rcases Nat.lt_or_ge k 175 with h | h
  · exact List.all_eq_true.mp px_wm_140 k (by rw [List.mem_range'_1]; omega)
  rcases Nat.lt_or_ge k 210 with h | h
  · exact List.all_eq_true.mp px_wm_175 k (by rw [List.mem_range'_1]; omega)
  rcases Nat.lt_or_ge k 245 with h | h
  · exact List.all_eq_true.mp px_wm_210 k (by rw [List.mem_range'_1]; omega)
  rcases Nat.lt_or_ge k 280 with h | h
  · exact List.all_eq_true.mp px_wm_245 k (by rw [List.mem_range'_1]; omega)
  rcases Nat.lt_or_ge k 315 with h | h
  · exact List.all_eq_true.mp px_wm_280 k (by rw [List.mem_range'_1]; omega)
  rcases Nat.lt_or_ge k 349 with h | h
  · exact List.all_eq_true.mp px_wm_315 k (by rw [List.mem_range'_1]; omega)
  · omega
set_option maxRecDepth 100000 in
theorem px_qf_0 : (px_fl.getD 0 []).all (px_kf 0) = true := by decide +kernel
set_option maxRecDepth 100000 in
theorem px_qf_1 : (px_fl.getD 1 []).all (px_kf 1) = true := by decide +kernel
set_option maxRecDepth 100000 in
theorem px_qf_2 : (px_fl.getD 2 []).all (px_kf 2) = true := by decide +kernel
set_option maxRecDepth 100000 in
theorem px_qf_3 : (px_fl.getD 3 []).all (px_kf 3) = true := by decide +kernel
set_option maxRecDepth 100000 in
theorem px_qf_4 : (px_fl.getD 4 []).all (px_kf 4) = true := by decide +kernel
set_option maxRecDepth 100000 in
theorem px_qf_5 : (px_fl.getD 5 []).all (px_kf 5) = true := by decide +kernel
set_option maxRecDepth 100000 in
theorem px_qf_6 : (px_fl.getD 6 []).all (px_kf 6) = true := by decide +kernel
set_option maxRecDepth 100000 in
theorem px_qf_7 : (px_fl.getD 7 []).all (px_kf 7) = true := by decide +kernel
set_option maxRecDepth 100000 in
theorem px_qf_8 : (px_fl.getD 8 []).all (px_kf 8) = true := by decide +kernel
set_option maxRecDepth 100000 in
theorem px_qf_9 : (px_fl.getD 9 []).all (px_kf 9) = true := by decide +kernel
set_option maxRecDepth 100000 in
theorem px_qf_10 : (px_fl.getD 10 []).all (px_kf 10) = true := by decide +kernel
set_option maxRecDepth 100000 in
theorem px_qf_11 : (px_fl.getD 11 []).all (px_kf 11) = true := by decide +kernel
set_option maxRecDepth 100000 in
theorem px_qf_12 : (px_fl.getD 12 []).all (px_kf 12) = true := by decide +kernel
set_option maxRecDepth 100000 in
theorem px_qf_13 : (px_fl.getD 13 []).all (px_kf 13) = true := by decide +kernel
set_option maxRecDepth 100000 in
theorem px_qf_14 : (px_fl.getD 14 []).all (px_kf 14) = true := by decide +kernel
set_option maxRecDepth 100000 in
theorem px_qf_15 : (px_fl.getD 15 []).all (px_kf 15) = true := by decide +kernel
set_option maxRecDepth 100000 in
theorem px_qf_16 : (px_fl.getD 16 []).all (px_kf 16) = true := by decide +kernel
set_option maxRecDepth 100000 in
theorem px_qf_17 : (px_fl.getD 17 []).all (px_kf 17) = true := by decide +kernel
set_option maxRecDepth 100000 in
theorem px_qf_18 : (px_fl.getD 18 []).all (px_kf 18) = true := by decide +kernel
set_option maxRecDepth 100000 in
theorem px_qf_19 : (px_fl.getD 19 []).all (px_kf 19) = true := by decide +kernel
set_option maxRecDepth 100000 in
theorem px_qf_20 : (px_fl.getD 20 []).all (px_kf 20) = true := by decide +kernel
theorem px_qf_all (c : Nat) : (px_fl.getD c []).all (px_kf c) = true := by
  match c with
  | 0 => exact px_qf_0
  | 1 => exact px_qf_1
  | 2 => exact px_qf_2
  | 3 => exact px_qf_3
  | 4 => exact px_qf_4
  | 5 => exact px_qf_5
  | 6 => exact px_qf_6
  | 7 => exact px_qf_7
  | 8 => exact px_qf_8
  | 9 => exact px_qf_9
  | 10 => exact px_qf_10
  | 11 => exact px_qf_11
  | 12 => exact px_qf_12
  | 13 => exact px_qf_13
  | 14 => exact px_qf_14
  | 15 => exact px_qf_15
  | 16 => exact px_qf_16
  | 17 => exact px_qf_17
  | 18 => exact px_qf_18
  | 19 => exact px_qf_19
  | 20 => exact px_qf_20
  | n + 21 =>
    rw [List.getD_eq_getElem?_getD, List.getElem?_eq_none (by show 21 ≤ _; omega)]
    rfl
set_option maxRecDepth 100000 in
theorem px_qg_0 : (px_gsl.getD 0 []).all (px_kg 0) = true := by decide +kernel
set_option maxRecDepth 100000 in
theorem px_qg_1 : (px_gsl.getD 1 []).all (px_kg 1) = true := by decide +kernel
set_option maxRecDepth 100000 in
theorem px_qg_2 : (px_gsl.getD 2 []).all (px_kg 2) = true := by decide +kernel
set_option maxRecDepth 100000 in
theorem px_qg_3 : (px_gsl.getD 3 []).all (px_kg 3) = true := by decide +kernel
set_option maxRecDepth 100000 in
theorem px_qg_4 : (px_gsl.getD 4 []).all (px_kg 4) = true := by decide +kernel
set_option maxRecDepth 100000 in
theorem px_qg_5 : (px_gsl.getD 5 []).all (px_kg 5) = true := by decide +kernel
set_option maxRecDepth 100000 in
theorem px_qg_6 : (px_gsl.getD 6 []).all (px_kg 6) = true := by decide +kernel
set_option maxRecDepth 100000 in
theorem px_qg_7 : (px_gsl.getD 7 []).all (px_kg 7) = true := by decide +kernel
set_option maxRecDepth 100000 in
theorem px_qg_8 : (px_gsl.getD 8 []).all (px_kg 8) = true := by decide +kernel
set_option maxRecDepth 100000 in
theorem px_qg_9 : (px_gsl.getD 9 []).all (px_kg 9) = true := by decide +kernel
set_option maxRecDepth 100000 in
theorem px_qg_10 : (px_gsl.getD 10 []).all (px_kg 10) = true := by decide +kernel
set_option maxRecDepth 100000 in
theorem px_qg_11 : (px_gsl.getD 11 []).all (px_kg 11) = true := by decide +kernel
set_option maxRecDepth 100000 in
theorem px_qg_12 : (px_gsl.getD 12 []).all (px_kg 12) = true := by decide +kernel
set_option maxRecDepth 100000 in
theorem px_qg_13 : (px_gsl.getD 13 []).all (px_kg 13) = true := by decide +kernel
set_option maxRecDepth 100000 in
theorem px_qg_14 : (px_gsl.getD 14 []).all (px_kg 14) = true := by decide +kernel
set_option maxRecDepth 100000 in
theorem px_qg_15 : (px_gsl.getD 15 []).all (px_kg 15) = true := by decide +kernel
set_option maxRecDepth 100000 in
theorem px_qg_16 : (px_gsl.getD 16 []).all (px_kg 16) = true := by decide +kernel
set_option maxRecDepth 100000 in
theorem px_qg_17 : (px_gsl.getD 17 []).all (px_kg 17) = true := by decide +kernel
set_option maxRecDepth 100000 in
theorem px_qg_18 : (px_gsl.getD 18 []).all (px_kg 18) = true := by decide +kernel
set_option maxRecDepth 100000 in
theorem px_qg_19 : (px_gsl.getD 19 []).all (px_kg 19) = true := by decide +kernel
set_option maxRecDepth 100000 in
theorem px_qg_20 : (px_gsl.getD 20 []).all (px_kg 20) = true := by decide +kernel
theorem px_qg_all (c : Nat) : (px_gsl.getD c []).all (px_kg c) = true := by
  match c with
  | 0 => exact px_qg_0
  | 1 => exact px_qg_1
  | 2 => exact px_qg_2
  | 3 => exact px_qg_3
  | 4 => exact px_qg_4
  | 5 => exact px_qg_5
  | 6 => exact px_qg_6
  | 7 => exact px_qg_7
  | 8 => exact px_qg_8
  | 9 => exact px_qg_9
  | 10 => exact px_qg_10
  | 11 => exact px_qg_11
  | 12 => exact px_qg_12
  | 13 => exact px_qg_13
  | 14 => exact px_qg_14
  | 15 => exact px_qg_15
  | 16 => exact px_qg_16
  | 17 => exact px_qg_17
  | 18 => exact px_qg_18
  | 19 => exact px_qg_19
  | 20 => exact px_qg_20
  | n + 21 =>
    rw [List.getD_eq_getElem?_getD, List.getElem?_eq_none (by show 21 ≤ _; omega)]
    rfl
set_option maxRecDepth 100000 in
theorem px_qm_0 : (px_cl.getD 0 []).all (px_km 0) = true := by decide +kernel
set_option maxRecDepth 100000 in
theorem px_qm_1 : (px_cl.getD 1 []).all (px_km 1) = true := by decide +kernel
set_option maxRecDepth 100000 in
theorem px_qm_2 : (px_cl.getD 2 []).all (px_km 2) = true := by decide +kernel
set_option maxRecDepth 100000 in
theorem px_qm_3 : (px_cl.getD 3 []).all (px_km 3) = true := by decide +kernel
set_option maxRecDepth 100000 in
theorem px_qm_4 : (px_cl.getD 4 []).all (px_km 4) = true := by decide +kernel
set_option maxRecDepth 100000 in
theorem px_qm_5 : (px_cl.getD 5 []).all (px_km 5) = true := by decide +kernel
set_option maxRecDepth 100000 in
theorem px_qm_6 : (px_cl.getD 6 []).all (px_km 6) = true := by decide +kernel
set_option maxRecDepth 100000 in
theorem px_qm_7 : (px_cl.getD 7 []).all (px_km 7) = true := by decide +kernel
set_option maxRecDepth 100000 in
theorem px_qm_8 : (px_cl.getD 8 []).all (px_km 8) = true := by decide +kernel
set_option maxRecDepth 100000 in
theorem px_qm_9 : (px_cl.getD 9 []).all (px_km 9) = true := by decide +kernel
set_option maxRecDepth 100000 in
theorem px_qm_10 : (px_cl.getD 10 []).all (px_km 10) = true := by decide +kernel
set_option maxRecDepth 100000 in
theorem px_qm_11 : (px_cl.getD 11 []).all (px_km 11) = true := by decide +kernel
set_option maxRecDepth 100000 in
theorem px_qm_12 : (px_cl.getD 12 []).all (px_km 12) = true := by decide +kernel
set_option maxRecDepth 100000 in
theorem px_qm_13 : (px_cl.getD 13 []).all (px_km 13) = true := by decide +kernel
set_option maxRecDepth 100000 in
theorem px_qm_14 : (px_cl.getD 14 []).all (px_km 14) = true := by decide +kernel
set_option maxRecDepth 100000 in
theorem px_qm_15 : (px_cl.getD 15 []).all (px_km 15) = true := by decide +kernel
set_option maxRecDepth 100000 in
theorem px_qm_16 : (px_cl.getD 16 []).all (px_km 16) = true := by decide +kernel
set_option maxRecDepth 100000 in
theorem px_qm_17 : (px_cl.getD 17 []).all (px_km 17) = true := by decide +kernel
set_option maxRecDepth 100000 in
theorem px_qm_18 : (px_cl.getD 18 []).all (px_km 18) = true := by decide +kernel
set_option maxRecDepth 100000 in
theorem px_qm_19 : (px_cl.getD 19 []).all (px_km 19) = true := by decide +kernel
set_option maxRecDepth 100000 in
theorem px_qm_20 : (px_cl.getD 20 []).all (px_km 20) = true := by decide +kernel
theorem px_qm_all (c : Nat) : (px_cl.getD c []).all (px_km c) = true := by
  match c with
  | 0 => exact px_qm_0
  | 1 => exact px_qm_1
  | 2 => exact px_qm_2
  | 3 => exact px_qm_3
  | 4 => exact px_qm_4
  | 5 => exact px_qm_5
  | 6 => exact px_qm_6
  | 7 => exact px_qm_7
  | 8 => exact px_qm_8
  | 9 => exact px_qm_9
  | 10 => exact px_qm_10
  | 11 => exact px_qm_11
  | 12 => exact px_qm_12
  | 13 => exact px_qm_13
  | 14 => exact px_qm_14
  | 15 => exact px_qm_15
  | 16 => exact px_qm_16
  | 17 => exact px_qm_17
  | 18 => exact px_qm_18
  | 19 => exact px_qm_19
  | 20 => exact px_qm_20
  | n + 21 =>
    rw [List.getD_eq_getElem?_getD, List.getElem?_eq_none (by show 21 ≤ _; omega)]
    rfl
set_option maxRecDepth 100000 in
theorem px_qi_0 : (px_kcl.getD 0 []).all (px_ki 0) = true := by decide +kernel
set_option maxRecDepth 100000 in
theorem px_qi_1 : (px_kcl.getD 1 []).all (px_ki 1) = true := by decide +kernel
set_option maxRecDepth 100000 in
theorem px_qi_2 : (px_kcl.getD 2 []).all (px_ki 2) = true := by decide +kernel
set_option maxRecDepth 100000 in
theorem px_qi_3 : (px_kcl.getD 3 []).all (px_ki 3) = true := by decide +kernel
set_option maxRecDepth 100000 in
theorem px_qi_4 : (px_kcl.getD 4 []).all (px_ki 4) = true := by decide +kernel
set_option maxRecDepth 100000 in
theorem px_qi_5 : (px_kcl.getD 5 []).all (px_ki 5) = true := by decide +kernel
set_option maxRecDepth 100000 in
theorem px_qi_6 : (px_kcl.getD 6 []).all (px_ki 6) = true := by decide +kernel
set_option maxRecDepth 100000 in
theorem px_qi_7 : (px_kcl.getD 7 []).all (px_ki 7) = true := by decide +kernel
set_option maxRecDepth 100000 in
theorem px_qi_8 : (px_kcl.getD 8 []).all (px_ki 8) = true := by decide +kernel
set_option maxRecDepth 100000 in
theorem px_qi_9 : (px_kcl.getD 9 []).all (px_ki 9) = true := by decide +kernel
set_option maxRecDepth 100000 in
theorem px_qi_10 : (px_kcl.getD 10 []).all (px_ki 10) = true := by decide +kernel
set_option maxRecDepth 100000 in
theorem px_qi_11 : (px_kcl.getD 11 []).all (px_ki 11) = true := by decide +kernel
set_option maxRecDepth 100000 in
theorem px_qi_12 : (px_kcl.getD 12 []).all (px_ki 12) = true := by decide +kernel
set_option maxRecDepth 100000 in
theorem px_qi_13 : (px_kcl.getD 13 []).all (px_ki 13) = true := by decide +kernel
set_option maxRecDepth 100000 in
theorem px_qi_14 : (px_kcl.getD 14 []).all (px_ki 14) = true := by decide +kernel
set_option maxRecDepth 100000 in
theorem px_qi_15 : (px_kcl.getD 15 []).all (px_ki 15) = true := by decide +kernel
set_option maxRecDepth 100000 in
theorem px_qi_16 : (px_kcl.getD 16 []).all (px_ki 16) = true := by decide +kernel
set_option maxRecDepth 100000 in
theorem px_qi_17 : (px_kcl.getD 17 []).all (px_ki 17) = true := by decide +kernel
set_option maxRecDepth 100000 in
theorem px_qi_18 : (px_kcl.getD 18 []).all (px_ki 18) = true := by decide +kernel
set_option maxRecDepth 100000 in
theorem px_qi_19 : (px_kcl.getD 19 []).all (px_ki 19) = true := by decide +kernel
set_option maxRecDepth 100000 in
theorem px_qi_20 : (px_kcl.getD 20 []).all (px_ki 20) = true := by decide +kernel
theorem px_qi_all (c : Nat) : (px_kcl.getD c []).all (px_ki c) = true := by
  match c with
  | 0 => exact px_qi_0
  | 1 => exact px_qi_1
  | 2 => exact px_qi_2
  | 3 => exact px_qi_3
  | 4 => exact px_qi_4
  | 5 => exact px_qi_5
  | 6 => exact px_qi_6
  | 7 => exact px_qi_7
  | 8 => exact px_qi_8
  | 9 => exact px_qi_9
  | 10 => exact px_qi_10
  | 11 => exact px_qi_11
  | 12 => exact px_qi_12
  | 13 => exact px_qi_13
  | 14 => exact px_qi_14
  | 15 => exact px_qi_15
  | 16 => exact px_qi_16
  | 17 => exact px_qi_17
  | 18 => exact px_qi_18
  | 19 => exact px_qi_19
  | 20 => exact px_qi_20
  | n + 21 =>
    rw [List.getD_eq_getElem?_getD, List.getElem?_eq_none (by show 21 ≤ _; omega)]
    rfl
set_option maxRecDepth 100000 in
theorem px_ql_0 : (px_kjl.getD 0 []).all (px_kl 0) = true := by decide +kernel
set_option maxRecDepth 100000 in
theorem px_ql_1 : (px_kjl.getD 1 []).all (px_kl 1) = true := by decide +kernel
set_option maxRecDepth 100000 in
theorem px_ql_2 : (px_kjl.getD 2 []).all (px_kl 2) = true := by decide +kernel
set_option maxRecDepth 100000 in
theorem px_ql_3 : (px_kjl.getD 3 []).all (px_kl 3) = true := by decide +kernel
set_option maxRecDepth 100000 in
theorem px_ql_4 : (px_kjl.getD 4 []).all (px_kl 4) = true := by decide +kernel
set_option maxRecDepth 100000 in
theorem px_ql_5 : (px_kjl.getD 5 []).all (px_kl 5) = true := by decide +kernel
set_option maxRecDepth 100000 in
theorem px_ql_6 : (px_kjl.getD 6 []).all (px_kl 6) = true := by decide +kernel
set_option maxRecDepth 100000 in
theorem px_ql_7 : (px_kjl.getD 7 []).all (px_kl 7) = true := by decide +kernel
set_option maxRecDepth 100000 in
theorem px_ql_8 : (px_kjl.getD 8 []).all (px_kl 8) = true := by decide +kernel
set_option maxRecDepth 100000 in
theorem px_ql_9 : (px_kjl.getD 9 []).all (px_kl 9) = true := by decide +kernel
set_option maxRecDepth 100000 in
theorem px_ql_10 : (px_kjl.getD 10 []).all (px_kl 10) = true := by decide +kernel
set_option maxRecDepth 100000 in
theorem px_ql_11 : (px_kjl.getD 11 []).all (px_kl 11) = true := by decide +kernel
set_option maxRecDepth 100000 in
theorem px_ql_12 : (px_kjl.getD 12 []).all (px_kl 12) = true := by decide +kernel
set_option maxRecDepth 100000 in
theorem px_ql_13 : (px_kjl.getD 13 []).all (px_kl 13) = true := by decide +kernel
set_option maxRecDepth 100000 in
theorem px_ql_14 : (px_kjl.getD 14 []).all (px_kl 14) = true := by decide +kernel
set_option maxRecDepth 100000 in
theorem px_ql_15 : (px_kjl.getD 15 []).all (px_kl 15) = true := by decide +kernel
set_option maxRecDepth 100000 in
theorem px_ql_16 : (px_kjl.getD 16 []).all (px_kl 16) = true := by decide +kernel
set_option maxRecDepth 100000 in
theorem px_ql_17 : (px_kjl.getD 17 []).all (px_kl 17) = true := by decide +kernel
set_option maxRecDepth 100000 in
theorem px_ql_18 : (px_kjl.getD 18 []).all (px_kl 18) = true := by decide +kernel
set_option maxRecDepth 100000 in
theorem px_ql_19 : (px_kjl.getD 19 []).all (px_kl 19) = true := by decide +kernel
set_option maxRecDepth 100000 in
theorem px_ql_20 : (px_kjl.getD 20 []).all (px_kl 20) = true := by decide +kernel
theorem px_ql_all (c : Nat) : (px_kjl.getD c []).all (px_kl c) = true := by
  match c with
  | 0 => exact px_ql_0
  | 1 => exact px_ql_1
  | 2 => exact px_ql_2
  | 3 => exact px_ql_3
  | 4 => exact px_ql_4
  | 5 => exact px_ql_5
  | 6 => exact px_ql_6
  | 7 => exact px_ql_7
  | 8 => exact px_ql_8
  | 9 => exact px_ql_9
  | 10 => exact px_ql_10
  | 11 => exact px_ql_11
  | 12 => exact px_ql_12
  | 13 => exact px_ql_13
  | 14 => exact px_ql_14
  | 15 => exact px_ql_15
  | 16 => exact px_ql_16
  | 17 => exact px_ql_17
  | 18 => exact px_ql_18
  | 19 => exact px_ql_19
  | 20 => exact px_ql_20
  | n + 21 =>
    rw [List.getD_eq_getElem?_getD, List.getElem?_eq_none (by show 21 ≤ _; omega)]
    rfl
def px_lyp : List (List Nat) := [[], [361, 363, 365, 367, 369, 371, 373], [426, 428, 430, 432], [186, 188, 190, 192, 194, 196, 198], [257, 259, 261, 263], [278, 280, 282, 284], [393, 395, 397, 399, 401, 403, 405, 407, 409], [224, 226, 228, 230, 232, 234, 236], [165, 167], [330, 332, 334, 336, 338, 340, 342, 344, 346, 348], [449, 451, 453, 455, 457, 459, 461, 463, 465, 467, 469, 471], [1348, 1350, 1352, 1354, 1356, 1358, 1360, 1362, 1364, 1366, 1368, 1370, 1372, 1374, 1376, 1378, 1380, 1382, 1384, 1386, 1388, 1390, 1392, 1394, 1396, 1398, 1400, 1402, 1404, 1406, 1408, 1410, 1412, 1414, 1416, 1418, 1420, 1422, 1424, 1426, 1428, 1430, 1432, 1434, 1436, 1438, 1440, 1442, 1444, 1446, 1448, 1450, 1452, 1454, 1456, 1458, 1460, 1462]]
def px_tyk (ci k : Nat) (d : String) : Bool := match px_fc ci k with
  | 0 => decide (parseFieldDescriptor d = some .int)
  | 1 => decide (parseFieldDescriptor d = some .long)
  | 2 => decide (parseFieldDescriptor d = some .boolean)
  | _ => (parseFieldDescriptor d).isSome
def px_ck (ci : Nat) : Bool := match px_cls[ci]? with
  | some q => (List.range q.2.2).all (fun i => px_w ((px_lyp.getD ci []).getD i 0) (u_lay q.1 q.2.1 i) && px_tyk ci i (q.2.1 i).2.2.1) && (List.range q.2.2).all (fun a => (List.range q.2.2).all fun b => decide (a = b) || decide ((q.2.1 a).2.1 ≠ (q.2.1 b).2.1)) && decide ((px_fcl.getD ci []).length = q.2.2)
  | none => true
set_option maxRecDepth 100000 in
theorem px_ck_0 : px_ck 0 = true := by decide +kernel
set_option maxRecDepth 100000 in
theorem px_ck_1 : px_ck 1 = true := by decide +kernel
set_option maxRecDepth 100000 in
theorem px_ck_2 : px_ck 2 = true := by decide +kernel
set_option maxRecDepth 100000 in
theorem px_ck_3 : px_ck 3 = true := by decide +kernel
set_option maxRecDepth 100000 in
theorem px_ck_4 : px_ck 4 = true := by decide +kernel
set_option maxRecDepth 100000 in
theorem px_ck_5 : px_ck 5 = true := by decide +kernel
set_option maxRecDepth 100000 in
theorem px_ck_6 : px_ck 6 = true := by decide +kernel
set_option maxRecDepth 100000 in
theorem px_ck_7 : px_ck 7 = true := by decide +kernel
set_option maxRecDepth 100000 in
theorem px_ck_8 : px_ck 8 = true := by decide +kernel
set_option maxRecDepth 100000 in
theorem px_ck_9 : px_ck 9 = true := by decide +kernel
set_option maxRecDepth 100000 in
theorem px_ck_10 : px_ck 10 = true := by decide +kernel
set_option maxRecDepth 100000 in
theorem px_ck_11 : px_ck 11 = true := by decide +kernel
theorem px_ck_all (ci : Nat) : px_ck ci = true := by
  match ci with
  | 0 => exact px_ck_0
  | 1 => exact px_ck_1
  | 2 => exact px_ck_2
  | 3 => exact px_ck_3
  | 4 => exact px_ck_4
  | 5 => exact px_ck_5
  | 6 => exact px_ck_6
  | 7 => exact px_ck_7
  | 8 => exact px_ck_8
  | 9 => exact px_ck_9
  | 10 => exact px_ck_10
  | 11 => exact px_ck_11
  | n + 12 =>
    unfold px_ck
    rw [List.getElem?_eq_none (by show 12 ≤ _; omega)]
theorem px_cls_ok {ci : Nat} {q : vw_C} (h : px_cls[ci]? = some q) : (∀ w ∈ u_ws q.1 q.2.1 q.2.2, w ∈ px_gw) ∧ (∀ k, k < q.2.2 → px_tyk ci k (q.2.1 k).2.2.1 = true) ∧ (∀ a, a < q.2.2 → ∀ b, b < q.2.2 → a ≠ b → (q.2.1 a).2.1 ≠ (q.2.1 b).2.1) ∧ (px_fcl.getD ci []).length = q.2.2 := by
  have h1 := px_ck_all ci
  unfold px_ck at h1
  rw [h] at h1
  simp only [Bool.and_eq_true, List.all_eq_true, List.mem_range, Bool.or_eq_true, decide_eq_true_eq] at h1
  obtain ⟨⟨h2, h3⟩, h4⟩ := h1
  refine ⟨fun w hw => ?_, fun k hk => (h2 k hk).2, fun a ha b hb hab => ?_, h4⟩
  · obtain ⟨i, hi, rfl⟩ := List.mem_map.mp hw
    exact px_w_in (h2 i (List.mem_range.mp hi)).1
  · rcases h3 a ha b hb with h5 | h5
    · exact absurd h5 hab
    · exact h5
theorem px_tyk_some {ci k : Nat} {d : String} (h : px_tyk ci k d = true) : parseFieldDescriptor d = some ((parseFieldDescriptor d).getD .int) := by
  unfold px_tyk at h
  cases hp : parseFieldDescriptor d with
  | some t => rfl
  | none =>
    rw [hp] at h
    split at h <;> simp at h
