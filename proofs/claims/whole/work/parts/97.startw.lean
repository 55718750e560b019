/-! the first memory and the first cells -/
def st_M (L : Nat) (xs : Nat → Int32) (MF MT : px_Mem) : px_Mem := (fun a => if a < 163 then (if 29 ≤ a ∧ a < 37 then MF.1 (a + 18) else if 47 ≤ a ∧ a < 55 then MT.1 a else if a = 3 then (fun j => if j = 2 then -1 else 0) else if a = 56 then (fun j => if j = 13 then -1 else 0) else if a = 88 then upd (upd (upd (upd (fun _ => 0) 0 (-1)) 1 (-1)) 2 (-1)) 3 (-1) else fun _ => 0) else st_ro L xs a, fun _ _ => 0)
def st_ar (q0 : Nat) (u : Nat → Nat) (q56 : Nat) (v : Nat → Nat) (o : Nat → Nat) : Nat → Nat := fun a => if a = 0 then q0 else if a < 56 then u a else if a = 56 then q56 else if a < 92 then v (a - 56) else if a < 163 then u 41 + 1 + (a - 92) else o a
theorem st_arrV {c : ClassId} {n : Nat} {f g : Nat → Value} (h : ∀ j, j < n → f j = g j) : arrV c n f = arrV c n g := by
  unfold arrV
  congr 2
  funext j
  exact h j.val j.isLt
theorem st_rf41 : ∀ j, j < 71 → px_rf 41 j = 92 + j := by decide +kernel
theorem st_sh92 : ∀ j, j < 71 → px_sh0 (92 + j) = some (.inr (1, 45)) := by decide +kernel
theorem st_ar92 {q0 q56 : Nat} {u v o : Nat → Nat} {j : Nat} (h : j < 71) : st_ar q0 u q56 v o (92 + j) = u 41 + 1 + j := by
  unfold st_ar
  rw [if_neg (by omega), if_neg (by omega), if_neg (by omega), if_neg (by omega), if_pos (by omega), show 92 + j - 92 = j by omega]
theorem st_ar1000 {q0 q56 : Nat} {u v o : Nat → Nat} {a : Nat} (h : 1000 ≤ a) : st_ar q0 u q56 v o a = o a := by
  unfold st_ar
  rw [if_neg (by omega), if_neg (by omega), if_neg (by omega), if_neg (by omega), if_neg (by omega)]
theorem st_range : List.range 163 = (([0, 1, 2, 3, 4, 5, 6, 7, 8, 9, 10, 11, 12, 13, 14, 15, 16, 17, 18, 19, 20, 21, 22, 23, 24, 25, 26, 27, 28, 29, 30, 31, 32, 33, 34, 35, 36, 37, 38, 39, 40, 41, 42, 43, 44, 45, 46, 47, 48, 49, 50, 51, 52, 53, 54, 55] : List Nat) ++ [56, 57, 58, 59, 60, 61, 62, 63, 64, 65, 66, 67, 68, 69, 70, 71, 72, 73, 74, 75, 76, 77, 78, 79, 80, 81, 82, 83, 84, 85, 86, 87, 88, 89, 90, 91]) ++ (List.range 71).map (92 + ·) := by decide +kernel
set_option maxRecDepth 200000 in
set_option maxHeartbeats 4000000 in
theorem st_Lx1 {L : Nat} {xs : Nat → Int32} {q0 q56 : Nat} {u v : (Nat → Nat) × px_Mem × px_Mem} {o : Nat → Nat} {cA : Nat → ClassId} : y_FrozenTrees cA (st_ar q0 u.1 q56 v.1 o) q0 u = st_L1 (st_ar q0 u.1 q56 v.1 o) cA (st_M L xs u.2.1 u.2.2) := rfl
set_option maxRecDepth 200000 in
set_option maxHeartbeats 4000000 in
theorem st_Lx2 {L : Nat} {xs : Nat → Int32} {q0 q56 : Nat} {u v : (Nat → Nat) × px_Mem × px_Mem} {o : Nat → Nat} {cA : Nat → ClassId} : w_Model cA q56 v = st_L2 (st_ar q0 u.1 q56 v.1 o) cA (st_M L xs u.2.1 u.2.2) := rfl
theorem st_ws {L : Nat} {xs : Nat → Int32} {q0 q56 : Nat} {u v : (Nat → Nat) × px_Mem × px_Mem} {o : Nat → Nat} {cA : Nat → ClassId} : (y_FrozenTrees cA (st_ar q0 u.1 q56 v.1 o) q0 u ++ w_Model cA q56 v) ++ ct_pics cA (u.1 41) = px_ws 0 (st_ar q0 u.1 q56 v.1 o) cA (st_M L xs u.2.1 u.2.2) := by
  rw [st_Lx1 (L := L) (xs := xs), st_Lx2 (L := L) (xs := xs) (q0 := q0) (q56 := q56) (u := u) (v := v) (o := o), ← st_L1_ok, ← st_L2_ok]
  show _ = (List.range 163).map _
  rw [st_range, List.map_append, List.map_append, List.map_map]
  congr 1
/-! the first memory keeps IV -/
theorem st_ro1 {L : Nat} {xs : Nat → Int32} {i : Nat} (hi : i < 14) : st_ro L xs (1100 + i) 1 = 0 := by
  unfold st_ro
  rw [if_neg (by omega), if_neg (by omega), if_neg (by omega), if_neg (by omega), if_neg (by omega)]
theorem st_ro2 {L : Nat} {xs : Nat → Int32} {i j : Nat} (hi : i < 14) : st_ro L xs (1200 + i) j = (px_str.getD i []).getD j 0 := by
  unfold st_ro
  rw [if_neg (by omega), if_neg (by omega), if_neg (by omega), if_neg (by omega), if_pos (by omega), show 1200 + i - 1200 = i by omega]
theorem st_Mro {L : Nat} {xs : Nat → Int32} {MF MT : px_Mem} {a : Nat} (h : 163 ≤ a) : (st_M L xs MF MT).1 a = st_ro L xs a := by
  show (if a < 163 then _ else _) = _
  rw [if_neg (by omega)]
theorem st_MF {L : Nat} {xs : Nat → Int32} {MF MT : px_Mem} {i : Nat} (h : i < 8) : (st_M L xs MF MT).1 (29 + i) = MF.1 (47 + i) := by
  show (if 29 + i < 163 then (if 29 ≤ 29 + i ∧ 29 + i < 37 then MF.1 (29 + i + 18) else _) else _) = _
  rw [if_pos (by omega), if_pos (by omega), show 29 + i + 18 = 47 + i by omega]
theorem st_IV {L : Nat} {xs : Nat → Int32} {MF MT : px_Mem} (h : ws_C ws_0 47 MF) : IV (st_M L xs MF MT) := by
  refine IV_0 ?_ ⟨fun i _ => ?_, fun i _ => ?_, fun i hi => ?_, fun i j hi => ?_⟩ (fun i _ _ => rfl) (fun i _ => rfl) rfl rfl rfl rfl rfl rfl (fun k hk => ?_) (fun k hk => ?_)
  · obtain ⟨⟨a1, a2, a3⟩, b1, b2, b3, b4, b5, b6⟩ := h
    have e0 := st_MF (L := L) (xs := xs) (MF := MF) (MT := MT) (i := 0) (by omega)
    have e1 := st_MF (L := L) (xs := xs) (MF := MF) (MT := MT) (i := 1) (by omega)
    have e2 := st_MF (L := L) (xs := xs) (MF := MF) (MT := MT) (i := 2) (by omega)
    have e4 := st_MF (L := L) (xs := xs) (MF := MF) (MT := MT) (i := 4) (by omega)
    have e5 := st_MF (L := L) (xs := xs) (MF := MF) (MT := MT) (i := 5) (by omega)
    have e6 := st_MF (L := L) (xs := xs) (MF := MF) (MT := MT) (i := 6) (by omega)
    have e7 := st_MF (L := L) (xs := xs) (MF := MF) (MT := MT) (i := 7) (by omega)
    have e0 : (st_M L xs MF MT).1 29 = MF.1 47 := e0
    generalize st_M L xs MF MT = M at e0 e1 e2 e4 e5 e6 e7 ⊢
    exact ⟨⟨by rw [e0]; exact a1, by rw [e0]; exact a2, by rw [e0]; exact a3⟩, fun p hp => by rw [e1]; exact b1 p hp, fun p hp => by rw [e2]; exact b2 p hp, fun p hp => by rw [e4]; exact b3 p hp, fun p hp => by rw [e5]; exact b4 p hp, fun p hp => by rw [e6]; exact b5 p hp, fun p hp => by rw [e7]; exact b6 p hp⟩
  · rw [st_Mro (by omega)]
    rfl
  · rw [st_Mro (by omega)]
    rfl
  · rw [st_Mro (by omega)]
    exact st_ro1 hi
  · rw [st_Mro (by omega)]
    exact st_ro2 hi
  · rcases (show k = 0 ∨ k = 1 ∨ k = 2 by omega) with rfl | rfl | rfl <;> exact ⟨rfl, rfl⟩
  · rcases (show k = 0 ∨ k = 1 ∨ k = 2 ∨ k = 3 by omega) with rfl | rfl | rfl | rfl <;> exact ⟨rfl, rfl, fun i _ => rfl⟩
theorem st_wfp : px_wfp 342 (lc_l (nI 0)) := by
  intro p w h hc
  match p, h with
  | 0, h => cases h; cases hc
  | 1, h => cases h; cases hc
  | 2, h => cases h; cases hc
  | 3, h => cases h; cases hc
  | n + 4, h => cases h
