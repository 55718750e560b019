theorem px_chk_lt (k : Nat) (hk : k < 342) : px_chk k = true := by
  rcases Nat.lt_or_ge k 13 with h | h
  · exact List.all_eq_true.mp px_chk_0 k (by rw [List.mem_range'_1]; omega)
  rcases Nat.lt_or_ge k 19 with h | h
  · exact List.all_eq_true.mp px_chk_13 k (by rw [List.mem_range'_1]; omega)
  rcases Nat.lt_or_ge k 24 with h | h
  · exact List.all_eq_true.mp px_chk_19 k (by rw [List.mem_range'_1]; omega)
  rcases Nat.lt_or_ge k 32 with h | h
  · exact List.all_eq_true.mp px_chk_24 k (by rw [List.mem_range'_1]; omega)
  rcases Nat.lt_or_ge k 41 with h | h
  · exact List.all_eq_true.mp px_chk_32 k (by rw [List.mem_range'_1]; omega)
  rcases Nat.lt_or_ge k 47 with h | h
  · exact List.all_eq_true.mp px_chk_41 k (by rw [List.mem_range'_1]; omega)
  rcases Nat.lt_or_ge k 51 with h | h
  · exact List.all_eq_true.mp px_chk_47 k (by rw [List.mem_range'_1]; omega)
  rcases Nat.lt_or_ge k 60 with h | h
  · exact List.all_eq_true.mp px_chk_51 k (by rw [List.mem_range'_1]; omega)
  rcases Nat.lt_or_ge k 67 with h | h
  · exact List.all_eq_true.mp px_chk_60 k (by rw [List.mem_range'_1]; omega)
  rcases Nat.lt_or_ge k 73 with h | h
  · exact List.all_eq_true.mp px_chk_67 k (by rw [List.mem_range'_1]; omega)
  rcases Nat.lt_or_ge k 76 with h | h
  · exact List.all_eq_true.mp px_chk_73 k (by rw [List.mem_range'_1]; omega)
  rcases Nat.lt_or_ge k 82 with h | h
  · exact List.all_eq_true.mp px_chk_76 k (by rw [List.mem_range'_1]; omega)
  rcases Nat.lt_or_ge k 88 with h | h
  · exact List.all_eq_true.mp px_chk_82 k (by rw [List.mem_range'_1]; omega)
  rcases Nat.lt_or_ge k 98 with h | h
  · exact List.all_eq_true.mp px_chk_88 k (by rw [List.mem_range'_1]; omega)
  rcases Nat.lt_or_ge k 106 with h | h
  · exact List.all_eq_true.mp px_chk_98 k (by rw [List.mem_range'_1]; omega)
  rcases Nat.lt_or_ge k 114 with h | h
  · exact List.all_eq_true.mp px_chk_106 k (by rw [List.mem_range'_1]; omega)
  rcases Nat.lt_or_ge k 122 with h | h
  · exact List.all_eq_true.mp px_chk_114 k (by rw [List.mem_range'_1]; omega)
  rcases Nat.lt_or_ge k 127 with h | h
  · exact List.all_eq_true.mp px_chk_122 k (by rw [List.mem_range'_1]; omega)
  rcases Nat.lt_or_ge k 135 with h | h
  · exact List.all_eq_true.mp px_chk_127 k (by rw [List.mem_range'_1]; omega)
  rcases Nat.lt_or_ge k 139 with h | h
  · exact List.all_eq_true.mp px_chk_135 k (by rw [List.mem_range'_1]; omega)
  rcases Nat.lt_or_ge k 146 with h | h
  · exact List.all_eq_true.mp px_chk_139 k (by rw [List.mem_range'_1]; omega)
  rcases Nat.lt_or_ge k 157 with h | h
  · exact List.all_eq_true.mp px_chk_146 k (by rw [List.mem_range'_1]; omega)
  rcases Nat.lt_or_ge k 168 with h | h
  · exact List.all_eq_true.mp px_chk_157 k (by rw [List.mem_range'_1]; omega)
  rcases Nat.lt_or_ge k 171 with h | h
  · exact List.all_eq_true.mp px_chk_168 k (by rw [List.mem_range'_1]; omega)
  rcases Nat.lt_or_ge k 177 with h | h
  · exact List.all_eq_true.mp px_chk_171 k (by rw [List.mem_range'_1]; omega)
  rcases Nat.lt_or_ge k 190 with h | h
  · exact List.all_eq_true.mp px_chk_177 k (by rw [List.mem_range'_1]; omega)
  rcases Nat.lt_or_ge k 194 with h | h
  · exact List.all_eq_true.mp px_chk_190 k (by rw [List.mem_range'_1]; omega)
  rcases Nat.lt_or_ge k 203 with h | h
  · exact List.all_eq_true.mp px_chk_194 k (by rw [List.mem_range'_1]; omega)
  rcases Nat.lt_or_ge k 207 with h | h
  · exact List.all_eq_true.mp px_chk_203 k (by rw [List.mem_range'_1]; omega)
  rcases Nat.lt_or_ge k 213 with h | h
  · exact List.all_eq_true.mp px_chk_207 k (by rw [List.mem_range'_1]; omega)
  rcases Nat.lt_or_ge k 216 with h | h
  · exact List.all_eq_true.mp px_chk_213 k (by rw [List.mem_range'_1]; omega)
  rcases Nat.lt_or_ge k 220 with h | h
  · exact List.all_eq_true.mp px_chk_216 k (by rw [List.mem_range'_1]; omega)
  rcases Nat.lt_or_ge k 222 with h | h
  · exact List.all_eq_true.mp px_chk_220 k (by rw [List.mem_range'_1]; omega)
  rcases Nat.lt_or_ge k 231 with h | h
  · exact List.all_eq_true.mp px_chk_222 k (by rw [List.mem_range'_1]; omega)
  rcases Nat.lt_or_ge k 241 with h | h
  · exact List.all_eq_true.mp px_chk_231 k (by rw [List.mem_range'_1]; omega)
  rcases Nat.lt_or_ge k 251 with h | h
  · exact List.all_eq_true.mp px_chk_241 k (by rw [List.mem_range'_1]; omega)
  rcases Nat.lt_or_ge k 257 with h | h
  · exact List.all_eq_true.mp px_chk_251 k (by rw [List.mem_range'_1]; omega)
  rcases Nat.lt_or_ge k 259 with h | h
  · exact List.all_eq_true.mp px_chk_257 k (by rw [List.mem_range'_1]; omega)
  rcases Nat.lt_or_ge k 263 with h | h
  · exact List.all_eq_true.mp px_chk_259 k (by rw [List.mem_range'_1]; omega)
  rcases Nat.lt_or_ge k 269 with h | h
  · exact List.all_eq_true.mp px_chk_263 k (by rw [List.mem_range'_1]; omega)
  rcases Nat.lt_or_ge k 277 with h | h
  · exact List.all_eq_true.mp px_chk_269 k (by rw [List.mem_range'_1]; omega)
  rcases Nat.lt_or_ge k 286 with h | h
  · exact List.all_eq_true.mp px_chk_277 k (by rw [List.mem_range'_1]; omega)
  rcases Nat.lt_or_ge k 292 with h | h
  · exact List.all_eq_true.mp px_chk_286 k (by rw [List.mem_range'_1]; omega)
  rcases Nat.lt_or_ge k 297 with h | h
  · exact List.all_eq_true.mp px_chk_292 k (by rw [List.mem_range'_1]; omega)
  rcases Nat.lt_or_ge k 308 with h | h
  · exact List.all_eq_true.mp px_chk_297 k (by rw [List.mem_range'_1]; omega)
  rcases Nat.lt_or_ge k 312 with h | h
  · exact List.all_eq_true.mp px_chk_308 k (by rw [List.mem_range'_1]; omega)
  rcases Nat.lt_or_ge k 315 with h | h
  · exact List.all_eq_true.mp px_chk_312 k (by rw [List.mem_range'_1]; omega)
  rcases Nat.lt_or_ge k 322 with h | h
  · exact List.all_eq_true.mp px_chk_315 k (by rw [List.mem_range'_1]; omega)
  rcases Nat.lt_or_ge k 329 with h | h
  · exact List.all_eq_true.mp px_chk_322 k (by rw [List.mem_range'_1]; omega)
  rcases Nat.lt_or_ge k 332 with h | h
  · exact List.all_eq_true.mp px_chk_329 k (by rw [List.mem_range'_1]; omega)
  rcases Nat.lt_or_ge k 342 with h | h
  · exact List.all_eq_true.mp px_chk_332 k (by rw [List.mem_range'_1]; omega)
  · omega
theorem px_all3 {α : Type} {P : α → Bool} {l : List α} (h : ∀ a, a < 12 → ((l.drop (3 * a)).take 3).all P = true) (hl : l.length ≤ 36) : l.all P = true := by
  rw [List.all_eq_true]
  intro x hx
  obtain ⟨j, hj⟩ := List.getElem?_of_mem hx
  have hlt : j < l.length := (List.getElem?_eq_some_iff.mp hj).1
  have h1 := h (j / 3) (by omega)
  rw [List.all_eq_true] at h1
  apply h1
  have h2 : ((l.drop (3 * (j / 3))).take 3)[j % 3]? = some x := by
    rw [List.getElem?_take_of_lt (by omega), List.getElem?_drop, show 3 * (j / 3) + j % 3 = j by omega]
    exact hj
  exact List.mem_of_getElem? h2
theorem px_tk3 {α : Type} {P : α → Bool} {l : List α} {a : Nat} (h0 : ((l.drop a).take 1).all P = true) (h1 : ((l.drop (a + 1)).take 1).all P = true) (h2 : ((l.drop (a + 2)).take 1).all P = true) : ((l.drop a).take 3).all P = true := by
  have e1 : l.drop (a + 1) = (l.drop a).drop 1 := by simp [List.drop_drop]
  have e2 : l.drop (a + 2) = (l.drop a).drop 2 := by simp [List.drop_drop]
  rw [e1] at h1
  rw [e2] at h2
  generalize l.drop a = L at h0 h1 h2
  match L, h0, h1, h2 with
  | [], _, _, _ => rfl
  | [x], h0, _, _ => simpa using h0
  | [x, y], h0, h1, _ => simp at h0 h1; simp [h0, h1]
  | x :: y :: z :: t, h0, h1, h2 => simp at h0 h1 h2; simp [h0, h1, h2]
theorem px_chk_law : px_chk px_LAW = true := by
  refine px_all3 (fun a ha => ?_) (by decide +kernel)
  match a, ha with
  | 0, _ => exact px_chl_0
  | 1, _ => exact px_chl_3
  | 2, _ => exact px_chl_6
  | 3, _ => exact px_chl_9
  | 4, _ => exact px_chl_12
  | 5, _ => exact px_chl_15
  | 6, _ => exact px_chl_18
  | 7, _ => exact px_chl_21
  | 8, _ => exact px_chl_24
  | 9, _ => exact px_chl_27
  | 10, _ => exact px_tk3 (a := 30) px_chm_30 px_chm_31 px_chm_32
  | 11, _ => exact px_tk3 (a := 33) px_chm_33 px_chm_34 px_chm_35
theorem px_chk_all (k : Nat) (hk : k < px_NM) : px_chk k = true := by
  have hk2 : k < 343 := hk
  rcases Nat.lt_or_ge k 342 with h | h
  · exact px_chk_lt k h
  · rw [show k = px_LAW from (by show k = 342; omega)]
    exact px_chk_law
theorem px_in_ok {k pc len : Nat} {i : Instr} (hk : k < px_NM) (h : px_in k pc = some (i, len)) : decode (px_by k) pc = .ok (i, len) ∧ px_oki k pc len i = true := by
  have h1 := px_lk_in h
  have h2 := px_chk_all k hk
  unfold px_chk at h2
  rw [List.all_eq_true] at h2
  by_cases hc : pc / 64 < (px_tb k).length
  · have h3 := h2 ((px_tb k).getD (pc / 64) []) (by rw [List.getD_eq_getElem?_getD, List.getElem?_eq_getElem hc]; exact List.getElem_mem hc)
    rw [List.all_eq_true] at h3
    have h4 := h3 _ h1
    rw [Bool.and_eq_true] at h4
    exact ⟨of_decide_eq_true h4.1, h4.2⟩
  · rw [List.getD_eq_getElem?_getD, List.getElem?_eq_none (by omega)] at h1
    cases h1
