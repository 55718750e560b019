set_option maxRecDepth 100000 in
theorem px_qf_0 : (px_fl.getD 0 []).all (px_kf 0) = true := by decide +kernel
set_option maxRecDepth 100000 in
theorem px_qf_1 : (px_fl.getD 1 []).all (px_kf 1) = true := by decide +kernel
set_option maxRecDepth 100000 in
theorem px_qf_2 : (px_fl.getD 2 []).all (px_kf 2) = true := by decide +kernel
set_option maxRecDepth 100000 in
theorem px_qf_3 : (px_fl.getD 3 []).all (px_kf 3) = true := by decide +kernel
set_option maxRecDepth 100000 in
theorem px_qf_4 : (px_fl.getD 4 []).all (px_kf 4) = true := by decide +kernel
set_option maxRecDepth 100000 in
theorem px_qf_5 : (px_fl.getD 5 []).all (px_kf 5) = true := by decide +kernel
set_option maxRecDepth 100000 in
theorem px_qf_6 : (px_fl.getD 6 []).all (px_kf 6) = true := by decide +kernel
set_option maxRecDepth 100000 in
theorem px_qf_7 : (px_fl.getD 7 []).all (px_kf 7) = true := by decide +kernel
set_option maxRecDepth 100000 in
theorem px_qf_8 : (px_fl.getD 8 []).all (px_kf 8) = true := by decide +kernel
set_option maxRecDepth 100000 in
theorem px_qf_9 : (px_fl.getD 9 []).all (px_kf 9) = true := by decide +kernel
set_option maxRecDepth 100000 in
theorem px_qf_10 : (px_fl.getD 10 []).all (px_kf 10) = true := by decide +kernel
set_option maxRecDepth 100000 in
theorem px_qf_11 : (px_fl.getD 11 []).all (px_kf 11) = true := by decide +kernel
set_option maxRecDepth 100000 in
theorem px_qf_12 : (px_fl.getD 12 []).all (px_kf 12) = true := by decide +kernel
set_option maxRecDepth 100000 in
theorem px_qf_13 : (px_fl.getD 13 []).all (px_kf 13) = true := by decide +kernel
set_option maxRecDepth 100000 in
theorem px_qf_14 : (px_fl.getD 14 []).all (px_kf 14) = true := by decide +kernel
set_option maxRecDepth 100000 in
theorem px_qf_15 : (px_fl.getD 15 []).all (px_kf 15) = true := by decide +kernel
set_option maxRecDepth 100000 in
theorem px_qf_16 : (px_fl.getD 16 []).all (px_kf 16) = true := by decide +kernel
set_option maxRecDepth 100000 in
theorem px_qf_17 : (px_fl.getD 17 []).all (px_kf 17) = true := by decide +kernel
set_option maxRecDepth 100000 in
theorem px_qf_18 : (px_fl.getD 18 []).all (px_kf 18) = true := by decide +kernel
set_option maxRecDepth 100000 in
theorem px_qf_19 : (px_fl.getD 19 []).all (px_kf 19) = true := by decide +kernel
set_option maxRecDepth 100000 in
theorem px_qf_20 : (px_fl.getD 20 []).all (px_kf 20) = true := by decide +kernel
theorem px_qf_all (c : Nat) : (px_fl.getD c []).all (px_kf c) = true := by
  match c with
  | 0 => exact px_qf_0
  | 1 => exact px_qf_1
  | 2 => exact px_qf_2
  | 3 => exact px_qf_3
  | 4 => exact px_qf_4
  | 5 => exact px_qf_5
  | 6 => exact px_qf_6
  | 7 => exact px_qf_7
  | 8 => exact px_qf_8
  | 9 => exact px_qf_9
  | 10 => exact px_qf_10
  | 11 => exact px_qf_11
  | 12 => exact px_qf_12
  | 13 => exact px_qf_13
  | 14 => exact px_qf_14
  | 15 => exact px_qf_15
  | 16 => exact px_qf_16
  | 17 => exact px_qf_17
  | 18 => exact px_qf_18
  | 19 => exact px_qf_19
  | 20 => exact px_qf_20
  | n + 21 =>
    rw [List.getD_eq_getElem?_getD, List.getElem?_eq_none (by show 21 ≤ _; omega)]
    rfl
set_option maxRecDepth 100000 in
theorem px_qg_0 : (px_gsl.getD 0 []).all (px_kg 0) = true := by decide +kernel
set_option maxRecDepth 100000 in
theorem px_qg_1 : (px_gsl.getD 1 []).all (px_kg 1) = true := by decide +kernel
set_option maxRecDepth 100000 in
theorem px_qg_2 : (px_gsl.getD 2 []).all (px_kg 2) = true := by decide +kernel
set_option maxRecDepth 100000 in
theorem px_qg_3 : (px_gsl.getD 3 []).all (px_kg 3) = true := by decide +kernel
set_option maxRecDepth 100000 in
theorem px_qg_4 : (px_gsl.getD 4 []).all (px_kg 4) = true := by decide +kernel
set_option maxRecDepth 100000 in
theorem px_qg_5 : (px_gsl.getD 5 []).all (px_kg 5) = true := by decide +kernel
set_option maxRecDepth 100000 in
theorem px_qg_6 : (px_gsl.getD 6 []).all (px_kg 6) = true := by decide +kernel
set_option maxRecDepth 100000 in
theorem px_qg_7 : (px_gsl.getD 7 []).all (px_kg 7) = true := by decide +kernel
set_option maxRecDepth 100000 in
theorem px_qg_8 : (px_gsl.getD 8 []).all (px_kg 8) = true := by decide +kernel
set_option maxRecDepth 100000 in
theorem px_qg_9 : (px_gsl.getD 9 []).all (px_kg 9) = true := by decide +kernel
set_option maxRecDepth 100000 in
theorem px_qg_10 : (px_gsl.getD 10 []).all (px_kg 10) = true := by decide +kernel
set_option maxRecDepth 100000 in
theorem px_qg_11 : (px_gsl.getD 11 []).all (px_kg 11) = true := by decide +kernel
set_option maxRecDepth 100000 in
theorem px_qg_12 : (px_gsl.getD 12 []).all (px_kg 12) = true := by decide +kernel
set_option maxRecDepth 100000 in
theorem px_qg_13 : (px_gsl.getD 13 []).all (px_kg 13) = true := by decide +kernel
set_option maxRecDepth 100000 in
theorem px_qg_14 : (px_gsl.getD 14 []).all (px_kg 14) = true := by decide +kernel
set_option maxRecDepth 100000 in
theorem px_qg_15 : (px_gsl.getD 15 []).all (px_kg 15) = true := by decide +kernel
set_option maxRecDepth 100000 in
theorem px_qg_16 : (px_gsl.getD 16 []).all (px_kg 16) = true := by decide +kernel
set_option maxRecDepth 100000 in
theorem px_qg_17 : (px_gsl.getD 17 []).all (px_kg 17) = true := by decide +kernel
set_option maxRecDepth 100000 in
theorem px_qg_18 : (px_gsl.getD 18 []).all (px_kg 18) = true := by decide +kernel
set_option maxRecDepth 100000 in
theorem px_qg_19 : (px_gsl.getD 19 []).all (px_kg 19) = true := by decide +kernel
set_option maxRecDepth 100000 in
theorem px_qg_20 : (px_gsl.getD 20 []).all (px_kg 20) = true := by decide +kernel
theorem px_qg_all (c : Nat) : (px_gsl.getD c []).all (px_kg c) = true := by
  match c with
  | 0 => exact px_qg_0
  | 1 => exact px_qg_1
  | 2 => exact px_qg_2
  | 3 => exact px_qg_3
  | 4 => exact px_qg_4
  | 5 => exact px_qg_5
  | 6 => exact px_qg_6
  | 7 => exact px_qg_7
  | 8 => exact px_qg_8
  | 9 => exact px_qg_9
  | 10 => exact px_qg_10
  | 11 => exact px_qg_11
  | 12 => exact px_qg_12
  | 13 => exact px_qg_13
  | 14 => exact px_qg_14
  | 15 => exact px_qg_15
  | 16 => exact px_qg_16
  | 17 => exact px_qg_17
  | 18 => exact px_qg_18
  | 19 => exact px_qg_19
  | 20 => exact px_qg_20
  | n + 21 =>
    rw [List.getD_eq_getElem?_getD, List.getElem?_eq_none (by show 21 ≤ _; omega)]
    rfl
set_option maxRecDepth 100000 in
theorem px_qm_0 : (px_cl.getD 0 []).all (px_km 0) = true := by decide +kernel
set_option maxRecDepth 100000 in
theorem px_qm_1 : (px_cl.getD 1 []).all (px_km 1) = true := by decide +kernel
set_option maxRecDepth 100000 in
theorem px_qm_2 : (px_cl.getD 2 []).all (px_km 2) = true := by decide +kernel
set_option maxRecDepth 100000 in
theorem px_qm_3 : (px_cl.getD 3 []).all (px_km 3) = true := by decide +kernel
set_option maxRecDepth 100000 in
theorem px_qm_4 : (px_cl.getD 4 []).all (px_km 4) = true := by decide +kernel
set_option maxRecDepth 100000 in
theorem px_qm_5 : (px_cl.getD 5 []).all (px_km 5) = true := by decide +kernel
set_option maxRecDepth 100000 in
theorem px_qm_6 : (px_cl.getD 6 []).all (px_km 6) = true := by decide +kernel
set_option maxRecDepth 100000 in
theorem px_qm_7 : (px_cl.getD 7 []).all (px_km 7) = true := by decide +kernel
set_option maxRecDepth 100000 in
theorem px_qm_8 : (px_cl.getD 8 []).all (px_km 8) = true := by decide +kernel
set_option maxRecDepth 100000 in
theorem px_qm_9 : (px_cl.getD 9 []).all (px_km 9) = true := by decide +kernel
set_option maxRecDepth 100000 in
theorem px_qm_10 : (px_cl.getD 10 []).all (px_km 10) = true := by decide +kernel
set_option maxRecDepth 100000 in
theorem px_qm_11 : (px_cl.getD 11 []).all (px_km 11) = true := by decide +kernel
set_option maxRecDepth 100000 in
theorem px_qm_12 : (px_cl.getD 12 []).all (px_km 12) = true := by decide +kernel
set_option maxRecDepth 100000 in
theorem px_qm_13 : (px_cl.getD 13 []).all (px_km 13) = true := by decide +kernel
set_option maxRecDepth 100000 in
theorem px_qm_14 : (px_cl.getD 14 []).all (px_km 14) = true := by decide +kernel
set_option maxRecDepth 100000 in
theorem px_qm_15 : (px_cl.getD 15 []).all (px_km 15) = true := by decide +kernel
set_option maxRecDepth 100000 in
theorem px_qm_16 : (px_cl.getD 16 []).all (px_km 16) = true := by decide +kernel
set_option maxRecDepth 100000 in
theorem px_qm_17 : (px_cl.getD 17 []).all (px_km 17) = true := by decide +kernel
set_option maxRecDepth 100000 in
theorem px_qm_18 : (px_cl.getD 18 []).all (px_km 18) = true := by decide +kernel
set_option maxRecDepth 100000 in
theorem px_qm_19 : (px_cl.getD 19 []).all (px_km 19) = true := by decide +kernel
set_option maxRecDepth 100000 in
theorem px_qm_20 : (px_cl.getD 20 []).all (px_km 20) = true := by decide +kernel
theorem px_qm_all (c : Nat) : (px_cl.getD c []).all (px_km c) = true := by
  match c with
  | 0 => exact px_qm_0
  | 1 => exact px_qm_1
  | 2 => exact px_qm_2
  | 3 => exact px_qm_3
  | 4 => exact px_qm_4
  | 5 => exact px_qm_5
  | 6 => exact px_qm_6
  | 7 => exact px_qm_7
  | 8 => exact px_qm_8
  | 9 => exact px_qm_9
  | 10 => exact px_qm_10
  | 11 => exact px_qm_11
  | 12 => exact px_qm_12
  | 13 => exact px_qm_13
  | 14 => exact px_qm_14
  | 15 => exact px_qm_15
  | 16 => exact px_qm_16
  | 17 => exact px_qm_17
  | 18 => exact px_qm_18
  | 19 => exact px_qm_19
  | 20 => exact px_qm_20
  | n + 21 =>
    rw [List.getD_eq_getElem?_getD, List.getElem?_eq_none (by show 21 ≤ _; omega)]
    rfl
set_option maxRecDepth 100000 in
theorem px_qi_0 : (px_kcl.getD 0 []).all (px_ki 0) = true := by decide +kernel
set_option maxRecDepth 100000 in
theorem px_qi_1 : (px_kcl.getD 1 []).all (px_ki 1) = true := by decide +kernel
set_option maxRecDepth 100000 in
theorem px_qi_2 : (px_kcl.getD 2 []).all (px_ki 2) = true := by decide +kernel
set_option maxRecDepth 100000 in
theorem px_qi_3 : (px_kcl.getD 3 []).all (px_ki 3) = true := by decide +kernel
set_option maxRecDepth 100000 in
theorem px_qi_4 : (px_kcl.getD 4 []).all (px_ki 4) = true := by decide +kernel
set_option maxRecDepth 100000 in
theorem px_qi_5 : (px_kcl.getD 5 []).all (px_ki 5) = true := by decide +kernel
set_option maxRecDepth 100000 in
theorem px_qi_6 : (px_kcl.getD 6 []).all (px_ki 6) = true := by decide +kernel
set_option maxRecDepth 100000 in
theorem px_qi_7 : (px_kcl.getD 7 []).all (px_ki 7) = true := by decide +kernel
set_option maxRecDepth 100000 in
theorem px_qi_8 : (px_kcl.getD 8 []).all (px_ki 8) = true := by decide +kernel
set_option maxRecDepth 100000 in
theorem px_qi_9 : (px_kcl.getD 9 []).all (px_ki 9) = true := by decide +kernel
set_option maxRecDepth 100000 in
theorem px_qi_10 : (px_kcl.getD 10 []).all (px_ki 10) = true := by decide +kernel
set_option maxRecDepth 100000 in
theorem px_qi_11 : (px_kcl.getD 11 []).all (px_ki 11) = true := by decide +kernel
set_option maxRecDepth 100000 in
theorem px_qi_12 : (px_kcl.getD 12 []).all (px_ki 12) = true := by decide +kernel
set_option maxRecDepth 100000 in
theorem px_qi_13 : (px_kcl.getD 13 []).all (px_ki 13) = true := by decide +kernel
set_option maxRecDepth 100000 in
theorem px_qi_14 : (px_kcl.getD 14 []).all (px_ki 14) = true := by decide +kernel
set_option maxRecDepth 100000 in
theorem px_qi_15 : (px_kcl.getD 15 []).all (px_ki 15) = true := by decide +kernel
set_option maxRecDepth 100000 in
theorem px_qi_16 : (px_kcl.getD 16 []).all (px_ki 16) = true := by decide +kernel
set_option maxRecDepth 100000 in
theorem px_qi_17 : (px_kcl.getD 17 []).all (px_ki 17) = true := by decide +kernel
set_option maxRecDepth 100000 in
theorem px_qi_18 : (px_kcl.getD 18 []).all (px_ki 18) = true := by decide +kernel
set_option maxRecDepth 100000 in
theorem px_qi_19 : (px_kcl.getD 19 []).all (px_ki 19) = true := by decide +kernel
set_option maxRecDepth 100000 in
theorem px_qi_20 : (px_kcl.getD 20 []).all (px_ki 20) = true := by decide +kernel
theorem px_qi_all (c : Nat) : (px_kcl.getD c []).all (px_ki c) = true := by
  match c with
  | 0 => exact px_qi_0
  | 1 => exact px_qi_1
  | 2 => exact px_qi_2
  | 3 => exact px_qi_3
  | 4 => exact px_qi_4
  | 5 => exact px_qi_5
  | 6 => exact px_qi_6
  | 7 => exact px_qi_7
  | 8 => exact px_qi_8
  | 9 => exact px_qi_9
  | 10 => exact px_qi_10
  | 11 => exact px_qi_11
  | 12 => exact px_qi_12
  | 13 => exact px_qi_13
  | 14 => exact px_qi_14
  | 15 => exact px_qi_15
  | 16 => exact px_qi_16
  | 17 => exact px_qi_17
  | 18 => exact px_qi_18
  | 19 => exact px_qi_19
  | 20 => exact px_qi_20
  | n + 21 =>
    rw [List.getD_eq_getElem?_getD, List.getElem?_eq_none (by show 21 ≤ _; omega)]
    rfl
set_option maxRecDepth 100000 in
theorem px_ql_0 : (px_kjl.getD 0 []).all (px_kl 0) = true := by decide +kernel
set_option maxRecDepth 100000 in
theorem px_ql_1 : (px_kjl.getD 1 []).all (px_kl 1) = true := by decide +kernel
set_option maxRecDepth 100000 in
theorem px_ql_2 : (px_kjl.getD 2 []).all (px_kl 2) = true := by decide +kernel
set_option maxRecDepth 100000 in
theorem px_ql_3 : (px_kjl.getD 3 []).all (px_kl 3) = true := by decide +kernel
set_option maxRecDepth 100000 in
theorem px_ql_4 : (px_kjl.getD 4 []).all (px_kl 4) = true := by decide +kernel
set_option maxRecDepth 100000 in
theorem px_ql_5 : (px_kjl.getD 5 []).all (px_kl 5) = true := by decide +kernel
set_option maxRecDepth 100000 in
theorem px_ql_6 : (px_kjl.getD 6 []).all (px_kl 6) = true := by decide +kernel
set_option maxRecDepth 100000 in
theorem px_ql_7 : (px_kjl.getD 7 []).all (px_kl 7) = true := by decide +kernel
set_option maxRecDepth 100000 in
theorem px_ql_8 : (px_kjl.getD 8 []).all (px_kl 8) = true := by decide +kernel
set_option maxRecDepth 100000 in
theorem px_ql_9 : (px_kjl.getD 9 []).all (px_kl 9) = true := by decide +kernel
set_option maxRecDepth 100000 in
theorem px_ql_10 : (px_kjl.getD 10 []).all (px_kl 10) = true := by decide +kernel
set_option maxRecDepth 100000 in
theorem px_ql_11 : (px_kjl.getD 11 []).all (px_kl 11) = true := by decide +kernel
set_option maxRecDepth 100000 in
theorem px_ql_12 : (px_kjl.getD 12 []).all (px_kl 12) = true := by decide +kernel
set_option maxRecDepth 100000 in
theorem px_ql_13 : (px_kjl.getD 13 []).all (px_kl 13) = true := by decide +kernel
set_option maxRecDepth 100000 in
theorem px_ql_14 : (px_kjl.getD 14 []).all (px_kl 14) = true := by decide +kernel
set_option maxRecDepth 100000 in
theorem px_ql_15 : (px_kjl.getD 15 []).all (px_kl 15) = true := by decide +kernel
set_option maxRecDepth 100000 in
theorem px_ql_16 : (px_kjl.getD 16 []).all (px_kl 16) = true := by decide +kernel
set_option maxRecDepth 100000 in
theorem px_ql_17 : (px_kjl.getD 17 []).all (px_kl 17) = true := by decide +kernel
set_option maxRecDepth 100000 in
theorem px_ql_18 : (px_kjl.getD 18 []).all (px_kl 18) = true := by decide +kernel
set_option maxRecDepth 100000 in
theorem px_ql_19 : (px_kjl.getD 19 []).all (px_kl 19) = true := by decide +kernel
set_option maxRecDepth 100000 in
theorem px_ql_20 : (px_kjl.getD 20 []).all (px_kl 20) = true := by decide +kernel
theorem px_ql_all (c : Nat) : (px_kjl.getD c []).all (px_kl c) = true := by
  match c with
  | 0 => exact px_ql_0
  | 1 => exact px_ql_1
  | 2 => exact px_ql_2
  | 3 => exact px_ql_3
  | 4 => exact px_ql_4
  | 5 => exact px_ql_5
  | 6 => exact px_ql_6
  | 7 => exact px_ql_7
  | 8 => exact px_ql_8
  | 9 => exact px_ql_9
  | 10 => exact px_ql_10
  | 11 => exact px_ql_11
  | 12 => exact px_ql_12
  | 13 => exact px_ql_13
  | 14 => exact px_ql_14
  | 15 => exact px_ql_15
  | 16 => exact px_ql_16
  | 17 => exact px_ql_17
  | 18 => exact px_ql_18
  | 19 => exact px_ql_19
  | 20 => exact px_ql_20
  | n + 21 =>
    rw [List.getD_eq_getElem?_getD, List.getElem?_eq_none (by show 21 ≤ _; omega)]
    rfl
