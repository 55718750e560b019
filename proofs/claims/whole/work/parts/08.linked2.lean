def px_lyp : List (List Nat) := [[], [361, 363, 365, 367, 369, 371, 373], [426, 428, 430, 432], [186, 188, 190, 192, 194, 196, 198], [257, 259, 261, 263], [278, 280, 282, 284], [393, 395, 397, 399, 401, 403, 405, 407, 409], [224, 226, 228, 230, 232, 234, 236], [165, 167], [330, 332, 334, 336, 338, 340, 342, 344, 346, 348], [449, 451, 453, 455, 457, 459, 461, 463, 465, 467, 469, 471], [1348, 1350, 1352, 1354, 1356, 1358, 1360, 1362, 1364, 1366, 1368, 1370, 1372, 1374, 1376, 1378, 1380, 1382, 1384, 1386, 1388, 1390, 1392, 1394, 1396, 1398, 1400, 1402, 1404, 1406, 1408, 1410, 1412, 1414, 1416, 1418, 1420, 1422, 1424, 1426, 1428, 1430, 1432, 1434, 1436, 1438, 1440, 1442, 1444, 1446, 1448, 1450, 1452, 1454, 1456, 1458, 1460, 1462]]
def px_tyk (ci k : Nat) (d : String) : Bool := match px_fc ci k with
  | 0 => decide (parseFieldDescriptor d = some .int)
  | 1 => decide (parseFieldDescriptor d = some .long)
  | 2 => decide (parseFieldDescriptor d = some .boolean)
  | _ => (parseFieldDescriptor d).isSome
def px_ck (ci : Nat) : Bool := match px_cls[ci]? with
  | some q => (List.range q.2.2).all (fun i => px_w ((px_lyp.getD ci []).getD i 0) (u_lay q.1 q.2.1 i) && px_tyk ci i (q.2.1 i).2.2.1) && (List.range q.2.2).all (fun a => (List.range q.2.2).all fun b => decide (a = b) || decide ((q.2.1 a).2.1 ≠ (q.2.1 b).2.1)) && decide ((px_fcl.getD ci []).length = q.2.2)
  | none => true
set_option maxRecDepth 100000 in
theorem px_ck_0 : px_ck 0 = true := by decide +kernel
set_option maxRecDepth 100000 in
theorem px_ck_1 : px_ck 1 = true := by decide +kernel
set_option maxRecDepth 100000 in
theorem px_ck_2 : px_ck 2 = true := by decide +kernel
set_option maxRecDepth 100000 in
theorem px_ck_3 : px_ck 3 = true := by decide +kernel
set_option maxRecDepth 100000 in
theorem px_ck_4 : px_ck 4 = true := by decide +kernel
set_option maxRecDepth 100000 in
theorem px_ck_5 : px_ck 5 = true := by decide +kernel
set_option maxRecDepth 100000 in
theorem px_ck_6 : px_ck 6 = true := by decide +kernel
set_option maxRecDepth 100000 in
theorem px_ck_7 : px_ck 7 = true := by decide +kernel
set_option maxRecDepth 100000 in
theorem px_ck_8 : px_ck 8 = true := by decide +kernel
set_option maxRecDepth 100000 in
theorem px_ck_9 : px_ck 9 = true := by decide +kernel
set_option maxRecDepth 100000 in
theorem px_ck_10 : px_ck 10 = true := by decide +kernel
set_option maxRecDepth 100000 in
theorem px_ck_11 : px_ck 11 = true := by decide +kernel
theorem px_ck_all (ci : Nat) : px_ck ci = true := by
  match ci with
  | 0 => exact px_ck_0
  | 1 => exact px_ck_1
  | 2 => exact px_ck_2
  | 3 => exact px_ck_3
  | 4 => exact px_ck_4
  | 5 => exact px_ck_5
  | 6 => exact px_ck_6
  | 7 => exact px_ck_7
  | 8 => exact px_ck_8
  | 9 => exact px_ck_9
  | 10 => exact px_ck_10
  | 11 => exact px_ck_11
  | n + 12 =>
    unfold px_ck
    rw [List.getElem?_eq_none (by show 12 ≤ _; omega)]
theorem px_cls_ok {ci : Nat} {q : vw_C} (h : px_cls[ci]? = some q) : (∀ w ∈ u_ws q.1 q.2.1 q.2.2, w ∈ px_gw) ∧ (∀ k, k < q.2.2 → px_tyk ci k (q.2.1 k).2.2.1 = true) ∧ (∀ a, a < q.2.2 → ∀ b, b < q.2.2 → a ≠ b → (q.2.1 a).2.1 ≠ (q.2.1 b).2.1) ∧ (px_fcl.getD ci []).length = q.2.2 := by
  have h1 := px_ck_all ci
  unfold px_ck at h1
  rw [h] at h1
  simp only [Bool.and_eq_true, List.all_eq_true, List.mem_range, Bool.or_eq_true, decide_eq_true_eq] at h1
  obtain ⟨⟨h2, h3⟩, h4⟩ := h1
  refine ⟨fun w hw => ?_, fun k hk => (h2 k hk).2, fun a ha b hb hab => ?_, h4⟩
  · obtain ⟨i, hi, rfl⟩ := List.mem_map.mp hw
    exact px_w_in (h2 i (List.mem_range.mp hi)).1
  · rcases h3 a ha b hb with h5 | h5
    · exact absurd h5 hab
    · exact h5
theorem px_tyk_some {ci k : Nat} {d : String} (h : px_tyk ci k d = true) : parseFieldDescriptor d = some ((parseFieldDescriptor d).getD .int) := by
  unfold px_tyk at h
  cases hp : parseFieldDescriptor d with
  | some t => rfl
  | none =>
    rw [hp] at h
    split at h <;> simp at h
