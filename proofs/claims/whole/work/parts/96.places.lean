def px_mz (f : Nat → Nat → Value) : Nat → List Nat → List Value
  | _, [] => []
  | i, c :: l => f i c :: px_mz f (i + 1) l
theorem px_mz_eq (f : Nat → Nat → Value) : ∀ (l : List Nat) (i : Nat), l.mapIdx (fun j c => f (i + j) c) = px_mz f i l
  | [], _ => rfl
  | c :: l, i => by
    rw [List.mapIdx_cons]
    show f (i + 0) c :: l.mapIdx (fun j c => f (i + (j + 1)) c) = f i c :: px_mz f (i + 1) l
    rw [← px_mz_eq f l (i + 1), show (fun j c => f (i + (j + 1)) c) = fun j c => f (i + 1 + j) c from funext fun j => by rw [show i + (j + 1) = i + 1 + j by omega]]
    rfl
theorem px_mz_0 (f : Nat → Nat → Value) (l : List Nat) : l.mapIdx f = px_mz f 0 l := by
  rw [← px_mz_eq f l 0]
  rw [show (fun j c => f (0 + j) c) = f from funext fun j => by rw [Nat.zero_add]]
theorem pe_0 (ar : Nat → Nat) (cA : Nat → ClassId) (M : px_Mem) : px_e ar cA M 0 = .inr (10, [.ref (ar 1), .ref (ar 3), .ref (ar 4), .ref (ar 6), .ref (ar 8), .ref (ar 15), .ref (ar 24), .ref (ar 28), .ref (ar 38), .ref (ar 44), .ref (ar 47), .ref (ar 55)]) := by
  rw [px_e_o (show px_sh0 0 = some (.inl 10) by decide +kernel), px_mz_0]
  rfl
theorem pe_1 (ar : Nat → Nat) (cA : Nat → ClassId) (M : px_Mem) : px_e ar cA M 1 = .inr (8, [.ref (ar 2), .int (M.1 1 1)]) := by
  rw [px_e_o (show px_sh0 1 = some (.inl 8) by decide +kernel), px_mz_0]
  rfl
theorem pe_2 (ar : Nat → Nat) (cA : Nat → ClassId) (M : px_Mem) : px_e ar cA M 2 = .inl (cA 0, 900, .inl (M.1 2)) := px_e_a (show px_sh0 2 = some (.inr (0, 900)) by decide +kernel)
theorem pe_3 (ar : Nat → Nat) (cA : Nat → ClassId) (M : px_Mem) : px_e ar cA M 3 = .inr (3, [.ref (ar 1), .int (M.1 3 1), .int (M.1 3 2), .int (M.1 3 3), .int (M.1 3 4), .int (M.1 3 5), .int (M.1 3 6)]) := by
  rw [px_e_o (show px_sh0 3 = some (.inl 3) by decide +kernel), px_mz_0]
  rfl
theorem pe_4 (ar : Nat → Nat) (cA : Nat → ClassId) (M : px_Mem) : px_e ar cA M 4 = .inr (7, [.ref (ar 5), .int (M.1 4 1), .int (M.1 4 2), .int (M.1 4 3), .int (M.1 4 4), .int (M.1 4 5), .int (M.1 4 6)]) := by
  rw [px_e_o (show px_sh0 4 = some (.inl 7) by decide +kernel), px_mz_0]
  rfl
theorem pe_5 (ar : Nat → Nat) (cA : Nat → ClassId) (M : px_Mem) : px_e ar cA M 5 = .inl (cA 0, 70, .inl (M.1 5)) := px_e_a (show px_sh0 5 = some (.inr (0, 70)) by decide +kernel)
theorem pe_6 (ar : Nat → Nat) (cA : Nat → ClassId) (M : px_Mem) : px_e ar cA M 6 = .inr (7, [.ref (ar 7), .int (M.1 6 1), .int (M.1 6 2), .int (M.1 6 3), .int (M.1 6 4), .int (M.1 6 5), .int (M.1 6 6)]) := by
  rw [px_e_o (show px_sh0 6 = some (.inl 7) by decide +kernel), px_mz_0]
  rfl
theorem pe_7 (ar : Nat → Nat) (cA : Nat → ClassId) (M : px_Mem) : px_e ar cA M 7 = .inl (cA 0, 70, .inl (M.1 7)) := px_e_a (show px_sh0 7 = some (.inr (0, 70)) by decide +kernel)
theorem pe_8 (ar : Nat → Nat) (cA : Nat → ClassId) (M : px_Mem) : px_e ar cA M 8 = .inl (cA 4, 3, .inr (.inr (.inr (.inr (fun j => some (ar (px_rf 8 j))))))) := px_e_a (show px_sh0 8 = some (.inr (4, 3)) by decide +kernel)
theorem pe_9 (ar : Nat → Nat) (cA : Nat → ClassId) (M : px_Mem) : px_e ar cA M 9 = .inr (7, [.ref (ar 10), .int (M.1 9 1), .int (M.1 9 2), .int (M.1 9 3), .int (M.1 9 4), .int (M.1 9 5), .int (M.1 9 6)]) := by
  rw [px_e_o (show px_sh0 9 = some (.inl 7) by decide +kernel), px_mz_0]
  rfl
theorem pe_10 (ar : Nat → Nat) (cA : Nat → ClassId) (M : px_Mem) : px_e ar cA M 10 = .inl (cA 0, 70, .inl (M.1 10)) := px_e_a (show px_sh0 10 = some (.inr (0, 70)) by decide +kernel)
theorem pe_11 (ar : Nat → Nat) (cA : Nat → ClassId) (M : px_Mem) : px_e ar cA M 11 = .inr (7, [.ref (ar 12), .int (M.1 11 1), .int (M.1 11 2), .int (M.1 11 3), .int (M.1 11 4), .int (M.1 11 5), .int (M.1 11 6)]) := by
  rw [px_e_o (show px_sh0 11 = some (.inl 7) by decide +kernel), px_mz_0]
  rfl
theorem pe_12 (ar : Nat → Nat) (cA : Nat → ClassId) (M : px_Mem) : px_e ar cA M 12 = .inl (cA 0, 70, .inl (M.1 12)) := px_e_a (show px_sh0 12 = some (.inr (0, 70)) by decide +kernel)
theorem pe_13 (ar : Nat → Nat) (cA : Nat → ClassId) (M : px_Mem) : px_e ar cA M 13 = .inr (7, [.ref (ar 14), .int (M.1 13 1), .int (M.1 13 2), .int (M.1 13 3), .int (M.1 13 4), .int (M.1 13 5), .int (M.1 13 6)]) := by
  rw [px_e_o (show px_sh0 13 = some (.inl 7) by decide +kernel), px_mz_0]
  rfl
theorem pe_14 (ar : Nat → Nat) (cA : Nat → ClassId) (M : px_Mem) : px_e ar cA M 14 = .inl (cA 0, 70, .inl (M.1 14)) := px_e_a (show px_sh0 14 = some (.inr (0, 70)) by decide +kernel)
theorem pe_15 (ar : Nat → Nat) (cA : Nat → ClassId) (M : px_Mem) : px_e ar cA M 15 = .inl (cA 5, 4, .inr (.inr (.inr (.inr (fun j => some (ar (px_rf 15 j))))))) := px_e_a (show px_sh0 15 = some (.inr (5, 4)) by decide +kernel)
theorem pe_16 (ar : Nat → Nat) (cA : Nat → ClassId) (M : px_Mem) : px_e ar cA M 16 = .inr (4, [.ref (ar 17), .int (M.1 16 1), .int (M.1 16 2), .int (M.1 16 3)]) := by
  rw [px_e_o (show px_sh0 16 = some (.inl 4) by decide +kernel), px_mz_0]
  rfl
theorem pe_17 (ar : Nat → Nat) (cA : Nat → ClassId) (M : px_Mem) : px_e ar cA M 17 = .inl (cA 1, 60, .inr (.inl (M.2 17))) := px_e_a (show px_sh0 17 = some (.inr (1, 60)) by decide +kernel)
theorem pe_18 (ar : Nat → Nat) (cA : Nat → ClassId) (M : px_Mem) : px_e ar cA M 18 = .inr (4, [.ref (ar 19), .int (M.1 18 1), .int (M.1 18 2), .int (M.1 18 3)]) := by
  rw [px_e_o (show px_sh0 18 = some (.inl 4) by decide +kernel), px_mz_0]
  rfl
theorem pe_19 (ar : Nat → Nat) (cA : Nat → ClassId) (M : px_Mem) : px_e ar cA M 19 = .inl (cA 1, 60, .inr (.inl (M.2 19))) := px_e_a (show px_sh0 19 = some (.inr (1, 60)) by decide +kernel)
theorem pe_20 (ar : Nat → Nat) (cA : Nat → ClassId) (M : px_Mem) : px_e ar cA M 20 = .inr (4, [.ref (ar 21), .int (M.1 20 1), .int (M.1 20 2), .int (M.1 20 3)]) := by
  rw [px_e_o (show px_sh0 20 = some (.inl 4) by decide +kernel), px_mz_0]
  rfl
theorem pe_21 (ar : Nat → Nat) (cA : Nat → ClassId) (M : px_Mem) : px_e ar cA M 21 = .inl (cA 1, 60, .inr (.inl (M.2 21))) := px_e_a (show px_sh0 21 = some (.inr (1, 60)) by decide +kernel)
theorem pe_22 (ar : Nat → Nat) (cA : Nat → ClassId) (M : px_Mem) : px_e ar cA M 22 = .inr (4, [.ref (ar 23), .int (M.1 22 1), .int (M.1 22 2), .int (M.1 22 3)]) := by
  rw [px_e_o (show px_sh0 22 = some (.inl 4) by decide +kernel), px_mz_0]
  rfl
theorem pe_23 (ar : Nat → Nat) (cA : Nat → ClassId) (M : px_Mem) : px_e ar cA M 23 = .inl (cA 1, 60, .inr (.inl (M.2 23))) := px_e_a (show px_sh0 23 = some (.inr (1, 60)) by decide +kernel)
theorem pe_24 (ar : Nat → Nat) (cA : Nat → ClassId) (M : px_Mem) : px_e ar cA M 24 = .inr (5, [.ref (ar 25), .ref (ar 26), .ref (ar 27), .int (M.1 24 3)]) := by
  rw [px_e_o (show px_sh0 24 = some (.inl 5) by decide +kernel), px_mz_0]
  rfl
theorem pe_25 (ar : Nat → Nat) (cA : Nat → ClassId) (M : px_Mem) : px_e ar cA M 25 = .inl (cA 0, 20, .inl (M.1 25)) := px_e_a (show px_sh0 25 = some (.inr (0, 20)) by decide +kernel)
theorem pe_26 (ar : Nat → Nat) (cA : Nat → ClassId) (M : px_Mem) : px_e ar cA M 26 = .inl (cA 0, 20, .inl (M.1 26)) := px_e_a (show px_sh0 26 = some (.inr (0, 20)) by decide +kernel)
theorem pe_27 (ar : Nat → Nat) (cA : Nat → ClassId) (M : px_Mem) : px_e ar cA M 27 = .inl (cA 0, 20, .inl (M.1 27)) := px_e_a (show px_sh0 27 = some (.inr (0, 20)) by decide +kernel)
theorem pe_28 (ar : Nat → Nat) (cA : Nat → ClassId) (M : px_Mem) : px_e ar cA M 28 = .inr (1, [.ref (ar 4), .ref (ar 29), .ref (ar 37), .int (M.1 28 3), .int (M.1 28 4), .int (M.1 28 5), .int (M.1 28 6)]) := by
  rw [px_e_o (show px_sh0 28 = some (.inl 1) by decide +kernel), px_mz_0]
  rfl
theorem pe_29 (ar : Nat → Nat) (cA : Nat → ClassId) (M : px_Mem) : px_e ar cA M 29 = .inr (9, [.int (M.1 29 0), .int (M.1 29 1), .int (M.1 29 2), .ref (ar 30), .ref (ar 31), .ref (ar 32), .ref (ar 33), .ref (ar 34), .ref (ar 35), .ref (ar 36)]) := by
  rw [px_e_o (show px_sh0 29 = some (.inl 9) by decide +kernel), px_mz_0]
  rfl
theorem pe_30 (ar : Nat → Nat) (cA : Nat → ClassId) (M : px_Mem) : px_e ar cA M 30 = .inl (cA 0, 16, .inl (M.1 30)) := px_e_a (show px_sh0 30 = some (.inr (0, 16)) by decide +kernel)
theorem pe_31 (ar : Nat → Nat) (cA : Nat → ClassId) (M : px_Mem) : px_e ar cA M 31 = .inl (cA 0, 16, .inl (M.1 31)) := px_e_a (show px_sh0 31 = some (.inr (0, 16)) by decide +kernel)
theorem pe_32 (ar : Nat → Nat) (cA : Nat → ClassId) (M : px_Mem) : px_e ar cA M 32 = .inl (cA 0, 16, .inl (M.1 32)) := px_e_a (show px_sh0 32 = some (.inr (0, 16)) by decide +kernel)
theorem pe_33 (ar : Nat → Nat) (cA : Nat → ClassId) (M : px_Mem) : px_e ar cA M 33 = .inl (cA 0, 128, .inl (M.1 33)) := px_e_a (show px_sh0 33 = some (.inr (0, 128)) by decide +kernel)
theorem pe_34 (ar : Nat → Nat) (cA : Nat → ClassId) (M : px_Mem) : px_e ar cA M 34 = .inl (cA 0, 200, .inl (M.1 34)) := px_e_a (show px_sh0 34 = some (.inr (0, 200)) by decide +kernel)
theorem pe_35 (ar : Nat → Nat) (cA : Nat → ClassId) (M : px_Mem) : px_e ar cA M 35 = .inl (cA 0, 200, .inl (M.1 35)) := px_e_a (show px_sh0 35 = some (.inr (0, 200)) by decide +kernel)
theorem pe_36 (ar : Nat → Nat) (cA : Nat → ClassId) (M : px_Mem) : px_e ar cA M 36 = .inl (cA 0, 200, .inl (M.1 36)) := px_e_a (show px_sh0 36 = some (.inr (0, 200)) by decide +kernel)
theorem pe_37 (ar : Nat → Nat) (cA : Nat → ClassId) (M : px_Mem) : px_e ar cA M 37 = .inl (cA 0, 70, .inl (M.1 37)) := px_e_a (show px_sh0 37 = some (.inr (0, 70)) by decide +kernel)
theorem pe_38 (ar : Nat → Nat) (cA : Nat → ClassId) (M : px_Mem) : px_e ar cA M 38 = .inr (6, [.ref (ar 28), .ref (ar 4), .ref (ar 39), .ref (ar 40), .int (M.1 38 4), .ref (ar 41), .ref (ar 42), .ref (ar 43), .int (M.1 38 8)]) := by
  rw [px_e_o (show px_sh0 38 = some (.inl 6) by decide +kernel), px_mz_0]
  rfl
theorem pe_39 (ar : Nat → Nat) (cA : Nat → ClassId) (M : px_Mem) : px_e ar cA M 39 = .inl (cA 0, 200, .inl (M.1 39)) := px_e_a (show px_sh0 39 = some (.inr (0, 200)) by decide +kernel)
theorem pe_40 (ar : Nat → Nat) (cA : Nat → ClassId) (M : px_Mem) : px_e ar cA M 40 = .inl (cA 0, 120, .inl (M.1 40)) := px_e_a (show px_sh0 40 = some (.inr (0, 120)) by decide +kernel)
theorem pe_41 (ar : Nat → Nat) (cA : Nat → ClassId) (M : px_Mem) : px_e ar cA M 41 = .inl (cA 6, 71, .inr (.inr (.inr (.inr (fun j => some (ar (px_rf 41 j))))))) := px_e_a (show px_sh0 41 = some (.inr (6, 71)) by decide +kernel)
theorem pe_42 (ar : Nat → Nat) (cA : Nat → ClassId) (M : px_Mem) : px_e ar cA M 42 = .inl (cA 0, 71, .inl (M.1 42)) := px_e_a (show px_sh0 42 = some (.inr (0, 71)) by decide +kernel)
theorem pe_43 (ar : Nat → Nat) (cA : Nat → ClassId) (M : px_Mem) : px_e ar cA M 43 = .inl (cA 0, 71, .inl (M.1 43)) := px_e_a (show px_sh0 43 = some (.inr (0, 71)) by decide +kernel)
theorem pe_44 (ar : Nat → Nat) (cA : Nat → ClassId) (M : px_Mem) : px_e ar cA M 44 = .inr (2, [.ref (ar 45), .ref (ar 46), .int (M.1 44 2), .int (M.1 44 3)]) := by
  rw [px_e_o (show px_sh0 44 = some (.inl 2) by decide +kernel), px_mz_0]
  rfl
theorem pe_45 (ar : Nat → Nat) (cA : Nat → ClassId) (M : px_Mem) : px_e ar cA M 45 = .inl (cA 0, 16, .inl (M.1 45)) := px_e_a (show px_sh0 45 = some (.inr (0, 16)) by decide +kernel)
theorem pe_46 (ar : Nat → Nat) (cA : Nat → ClassId) (M : px_Mem) : px_e ar cA M 46 = .inl (cA 0, 15, .inl (M.1 46)) := px_e_a (show px_sh0 46 = some (.inr (0, 15)) by decide +kernel)
theorem pe_47 (ar : Nat → Nat) (cA : Nat → ClassId) (M : px_Mem) : px_e ar cA M 47 = .inr (9, [.int (M.1 47 0), .int (M.1 47 1), .int (M.1 47 2), .ref (ar 48), .ref (ar 49), .ref (ar 50), .ref (ar 51), .ref (ar 52), .ref (ar 53), .ref (ar 54)]) := by
  rw [px_e_o (show px_sh0 47 = some (.inl 9) by decide +kernel), px_mz_0]
  rfl
theorem pe_48 (ar : Nat → Nat) (cA : Nat → ClassId) (M : px_Mem) : px_e ar cA M 48 = .inl (cA 0, 16, .inl (M.1 48)) := px_e_a (show px_sh0 48 = some (.inr (0, 16)) by decide +kernel)
theorem pe_49 (ar : Nat → Nat) (cA : Nat → ClassId) (M : px_Mem) : px_e ar cA M 49 = .inl (cA 0, 16, .inl (M.1 49)) := px_e_a (show px_sh0 49 = some (.inr (0, 16)) by decide +kernel)
theorem pe_50 (ar : Nat → Nat) (cA : Nat → ClassId) (M : px_Mem) : px_e ar cA M 50 = .inl (cA 0, 16, .inl (M.1 50)) := px_e_a (show px_sh0 50 = some (.inr (0, 16)) by decide +kernel)
theorem pe_51 (ar : Nat → Nat) (cA : Nat → ClassId) (M : px_Mem) : px_e ar cA M 51 = .inl (cA 0, 128, .inl (M.1 51)) := px_e_a (show px_sh0 51 = some (.inr (0, 128)) by decide +kernel)
theorem pe_52 (ar : Nat → Nat) (cA : Nat → ClassId) (M : px_Mem) : px_e ar cA M 52 = .inl (cA 0, 200, .inl (M.1 52)) := px_e_a (show px_sh0 52 = some (.inr (0, 200)) by decide +kernel)
theorem pe_53 (ar : Nat → Nat) (cA : Nat → ClassId) (M : px_Mem) : px_e ar cA M 53 = .inl (cA 0, 200, .inl (M.1 53)) := px_e_a (show px_sh0 53 = some (.inr (0, 200)) by decide +kernel)
theorem pe_54 (ar : Nat → Nat) (cA : Nat → ClassId) (M : px_Mem) : px_e ar cA M 54 = .inl (cA 0, 200, .inl (M.1 54)) := px_e_a (show px_sh0 54 = some (.inr (0, 200)) by decide +kernel)
theorem pe_55 (ar : Nat → Nat) (cA : Nat → ClassId) (M : px_Mem) : px_e ar cA M 55 = .inl (cA 0, 64, .inl (M.1 55)) := px_e_a (show px_sh0 55 = some (.inr (0, 64)) by decide +kernel)
theorem pe_56 (ar : Nat → Nat) (cA : Nat → ClassId) (M : px_Mem) : px_e ar cA M 56 = .inr (11, [.int (M.1 56 0), .ref (ar 57), .ref (ar 58), .ref (ar 59), .ref (ar 60), .int (M.1 56 5), .ref (ar 61), .int (M.1 56 7), .int (M.1 56 8), .int (M.1 56 9), .int (M.1 56 10), .int (M.1 56 11), .int (M.1 56 12), .int (M.1 56 13), .ref (ar 62), .ref (ar 63), .ref (ar 64), .ref (ar 65), .ref (ar 66), .ref (ar 67), .int (M.1 56 20), .int (M.1 56 21), .int (M.1 56 22), .int (M.1 56 23), .ref (ar 68), .ref (ar 69), .ref (ar 70), .int (M.1 56 27), .ref (ar 71), .ref (ar 72), .ref (ar 73), .ref (ar 74), .ref (ar 75), .ref (ar 76), .ref (ar 77), .ref (ar 78), .ref (ar 79), .ref (ar 80), .ref (ar 81), .ref (ar 82), .ref (ar 83), .int (M.1 56 41), .ref (ar 84), .int (M.1 56 43), .ref (ar 85), .ref (ar 86), .int (M.1 56 46), .int (M.1 56 47), .int (M.1 56 48), .int (M.1 56 49), .ref (ar 87), .long (M.2 56 51), .long (M.2 56 52), .long (M.2 56 53), .ref (ar 88), .ref (ar 89), .ref (ar 90), .ref (ar 91)]) := by
  rw [px_e_o (show px_sh0 56 = some (.inl 11) by decide +kernel), px_mz_0]
  rfl
theorem pe_57 (ar : Nat → Nat) (cA : Nat → ClassId) (M : px_Mem) : px_e ar cA M 57 = .inl (cA 0, 285, .inl (M.1 57)) := px_e_a (show px_sh0 57 = some (.inr (0, 285)) by decide +kernel)
theorem pe_58 (ar : Nat → Nat) (cA : Nat → ClassId) (M : px_Mem) : px_e ar cA M 58 = .inl (cA 0, 855, .inl (M.1 58)) := px_e_a (show px_sh0 58 = some (.inr (0, 855)) by decide +kernel)
theorem pe_59 (ar : Nat → Nat) (cA : Nat → ClassId) (M : px_Mem) : px_e ar cA M 59 = .inl (cA 3, 3, .inl (M.1 59)) := px_e_a (show px_sh0 59 = some (.inr (3, 3)) by decide +kernel)
theorem pe_60 (ar : Nat → Nat) (cA : Nat → ClassId) (M : px_Mem) : px_e ar cA M 60 = .inl (cA 2, 900, .inl (M.1 60)) := px_e_a (show px_sh0 60 = some (.inr (2, 900)) by decide +kernel)
theorem pe_61 (ar : Nat → Nat) (cA : Nat → ClassId) (M : px_Mem) : px_e ar cA M 61 = .inl (cA 0, 5, .inl (M.1 61)) := px_e_a (show px_sh0 61 = some (.inr (0, 5)) by decide +kernel)
theorem pe_62 (ar : Nat → Nat) (cA : Nat → ClassId) (M : px_Mem) : px_e ar cA M 62 = .inl (cA 0, 285, .inl (M.1 62)) := px_e_a (show px_sh0 62 = some (.inr (0, 285)) by decide +kernel)
theorem pe_63 (ar : Nat → Nat) (cA : Nat → ClassId) (M : px_Mem) : px_e ar cA M 63 = .inl (cA 0, 72, .inl (M.1 63)) := px_e_a (show px_sh0 63 = some (.inr (0, 72)) by decide +kernel)
theorem pe_64 (ar : Nat → Nat) (cA : Nat → ClassId) (M : px_Mem) : px_e ar cA M 64 = .inl (cA 0, 72, .inl (M.1 64)) := px_e_a (show px_sh0 64 = some (.inr (0, 72)) by decide +kernel)
theorem pe_65 (ar : Nat → Nat) (cA : Nat → ClassId) (M : px_Mem) : px_e ar cA M 65 = .inl (cA 0, 72, .inl (M.1 65)) := px_e_a (show px_sh0 65 = some (.inr (0, 72)) by decide +kernel)
theorem pe_66 (ar : Nat → Nat) (cA : Nat → ClassId) (M : px_Mem) : px_e ar cA M 66 = .inl (cA 0, 72, .inl (M.1 66)) := px_e_a (show px_sh0 66 = some (.inr (0, 72)) by decide +kernel)
theorem pe_67 (ar : Nat → Nat) (cA : Nat → ClassId) (M : px_Mem) : px_e ar cA M 67 = .inl (cA 3, 72, .inl (M.1 67)) := px_e_a (show px_sh0 67 = some (.inr (3, 72)) by decide +kernel)
theorem pe_68 (ar : Nat → Nat) (cA : Nat → ClassId) (M : px_Mem) : px_e ar cA M 68 = .inl (cA 0, 16, .inl (M.1 68)) := px_e_a (show px_sh0 68 = some (.inr (0, 16)) by decide +kernel)
theorem pe_69 (ar : Nat → Nat) (cA : Nat → ClassId) (M : px_Mem) : px_e ar cA M 69 = .inl (cA 0, 16, .inl (M.1 69)) := px_e_a (show px_sh0 69 = some (.inr (0, 16)) by decide +kernel)
theorem pe_70 (ar : Nat → Nat) (cA : Nat → ClassId) (M : px_Mem) : px_e ar cA M 70 = .inl (cA 0, 128, .inl (M.1 70)) := px_e_a (show px_sh0 70 = some (.inr (0, 128)) by decide +kernel)
theorem pe_71 (ar : Nat → Nat) (cA : Nat → ClassId) (M : px_Mem) : px_e ar cA M 71 = .inl (cA 0, 200, .inl (M.1 71)) := px_e_a (show px_sh0 71 = some (.inr (0, 200)) by decide +kernel)
theorem pe_72 (ar : Nat → Nat) (cA : Nat → ClassId) (M : px_Mem) : px_e ar cA M 72 = .inl (cA 0, 200, .inl (M.1 72)) := px_e_a (show px_sh0 72 = some (.inr (0, 200)) by decide +kernel)
theorem pe_73 (ar : Nat → Nat) (cA : Nat → ClassId) (M : px_Mem) : px_e ar cA M 73 = .inl (cA 0, 72, .inl (M.1 73)) := px_e_a (show px_sh0 73 = some (.inr (0, 72)) by decide +kernel)
theorem pe_74 (ar : Nat → Nat) (cA : Nat → ClassId) (M : px_Mem) : px_e ar cA M 74 = .inl (cA 0, 72, .inl (M.1 74)) := px_e_a (show px_sh0 74 = some (.inr (0, 72)) by decide +kernel)
theorem pe_75 (ar : Nat → Nat) (cA : Nat → ClassId) (M : px_Mem) : px_e ar cA M 75 = .inl (cA 0, 72, .inl (M.1 75)) := px_e_a (show px_sh0 75 = some (.inr (0, 72)) by decide +kernel)
theorem pe_76 (ar : Nat → Nat) (cA : Nat → ClassId) (M : px_Mem) : px_e ar cA M 76 = .inl (cA 0, 73, .inl (M.1 76)) := px_e_a (show px_sh0 76 = some (.inr (0, 73)) by decide +kernel)
theorem pe_77 (ar : Nat → Nat) (cA : Nat → ClassId) (M : px_Mem) : px_e ar cA M 77 = .inl (cA 0, 73, .inl (M.1 77)) := px_e_a (show px_sh0 77 = some (.inr (0, 73)) by decide +kernel)
theorem pe_78 (ar : Nat → Nat) (cA : Nat → ClassId) (M : px_Mem) : px_e ar cA M 78 = .inl (cA 0, 1168, .inl (M.1 78)) := px_e_a (show px_sh0 78 = some (.inr (0, 1168)) by decide +kernel)
theorem pe_79 (ar : Nat → Nat) (cA : Nat → ClassId) (M : px_Mem) : px_e ar cA M 79 = .inl (cA 0, 1168, .inl (M.1 79)) := px_e_a (show px_sh0 79 = some (.inr (0, 1168)) by decide +kernel)
theorem pe_80 (ar : Nat → Nat) (cA : Nat → ClassId) (M : px_Mem) : px_e ar cA M 80 = .inl (cA 0, 9344, .inl (M.1 80)) := px_e_a (show px_sh0 80 = some (.inr (0, 9344)) by decide +kernel)
theorem pe_81 (ar : Nat → Nat) (cA : Nat → ClassId) (M : px_Mem) : px_e ar cA M 81 = .inl (cA 0, 14600, .inl (M.1 81)) := px_e_a (show px_sh0 81 = some (.inr (0, 14600)) by decide +kernel)
theorem pe_82 (ar : Nat → Nat) (cA : Nat → ClassId) (M : px_Mem) : px_e ar cA M 82 = .inl (cA 0, 200, .inl (M.1 82)) := px_e_a (show px_sh0 82 = some (.inr (0, 200)) by decide +kernel)
theorem pe_83 (ar : Nat → Nat) (cA : Nat → ClassId) (M : px_Mem) : px_e ar cA M 83 = .inl (cA 0, 120, .inl (M.1 83)) := px_e_a (show px_sh0 83 = some (.inr (0, 120)) by decide +kernel)
theorem pe_84 (ar : Nat → Nat) (cA : Nat → ClassId) (M : px_Mem) : px_e ar cA M 84 = .inl (cA 0, 37230, .inl (M.1 84)) := px_e_a (show px_sh0 84 = some (.inr (0, 37230)) by decide +kernel)
theorem pe_85 (ar : Nat → Nat) (cA : Nat → ClassId) (M : px_Mem) : px_e ar cA M 85 = .inl (cA 0, 16, .inl (M.1 85)) := px_e_a (show px_sh0 85 = some (.inr (0, 16)) by decide +kernel)
theorem pe_86 (ar : Nat → Nat) (cA : Nat → ClassId) (M : px_Mem) : px_e ar cA M 86 = .inl (cA 0, 16, .inl (M.1 86)) := px_e_a (show px_sh0 86 = some (.inr (0, 16)) by decide +kernel)
theorem pe_87 (ar : Nat → Nat) (cA : Nat → ClassId) (M : px_Mem) : px_e ar cA M 87 = .inl (cA 0, 64, .inl (M.1 87)) := px_e_a (show px_sh0 87 = some (.inr (0, 64)) by decide +kernel)
theorem pe_88 (ar : Nat → Nat) (cA : Nat → ClassId) (M : px_Mem) : px_e ar cA M 88 = .inl (cA 0, 4, .inl (M.1 88)) := px_e_a (show px_sh0 88 = some (.inr (0, 4)) by decide +kernel)
theorem pe_89 (ar : Nat → Nat) (cA : Nat → ClassId) (M : px_Mem) : px_e ar cA M 89 = .inl (cA 0, 4, .inl (M.1 89)) := px_e_a (show px_sh0 89 = some (.inr (0, 4)) by decide +kernel)
theorem pe_90 (ar : Nat → Nat) (cA : Nat → ClassId) (M : px_Mem) : px_e ar cA M 90 = .inl (cA 1, 240, .inr (.inl (M.2 90))) := px_e_a (show px_sh0 90 = some (.inr (1, 240)) by decide +kernel)
theorem pe_91 (ar : Nat → Nat) (cA : Nat → ClassId) (M : px_Mem) : px_e ar cA M 91 = .inl (cA 1, 60, .inr (.inl (M.2 91))) := px_e_a (show px_sh0 91 = some (.inr (1, 60)) by decide +kernel)
def st_L1 (ar : Nat → Nat) (cA : Nat → ClassId) (M : px_Mem) : va_W := [(ar 0, .inr (10, [.ref (ar 1), .ref (ar 3), .ref (ar 4), .ref (ar 6), .ref (ar 8), .ref (ar 15), .ref (ar 24), .ref (ar 28), .ref (ar 38), .ref (ar 44), .ref (ar 47), .ref (ar 55)])), (ar 1, .inr (8, [.ref (ar 2), .int (M.1 1 1)])), (ar 2, .inl (cA 0, 900, .inl (M.1 2))), (ar 3, .inr (3, [.ref (ar 1), .int (M.1 3 1), .int (M.1 3 2), .int (M.1 3 3), .int (M.1 3 4), .int (M.1 3 5), .int (M.1 3 6)])), (ar 4, .inr (7, [.ref (ar 5), .int (M.1 4 1), .int (M.1 4 2), .int (M.1 4 3), .int (M.1 4 4), .int (M.1 4 5), .int (M.1 4 6)])), (ar 5, .inl (cA 0, 70, .inl (M.1 5))), (ar 6, .inr (7, [.ref (ar 7), .int (M.1 6 1), .int (M.1 6 2), .int (M.1 6 3), .int (M.1 6 4), .int (M.1 6 5), .int (M.1 6 6)])), (ar 7, .inl (cA 0, 70, .inl (M.1 7))), (ar 8, .inl (cA 4, 3, .inr (.inr (.inr (.inr (fun j => some (ar (px_rf 8 j)))))))), (ar 9, .inr (7, [.ref (ar 10), .int (M.1 9 1), .int (M.1 9 2), .int (M.1 9 3), .int (M.1 9 4), .int (M.1 9 5), .int (M.1 9 6)])), (ar 10, .inl (cA 0, 70, .inl (M.1 10))), (ar 11, .inr (7, [.ref (ar 12), .int (M.1 11 1), .int (M.1 11 2), .int (M.1 11 3), .int (M.1 11 4), .int (M.1 11 5), .int (M.1 11 6)])), (ar 12, .inl (cA 0, 70, .inl (M.1 12))), (ar 13, .inr (7, [.ref (ar 14), .int (M.1 13 1), .int (M.1 13 2), .int (M.1 13 3), .int (M.1 13 4), .int (M.1 13 5), .int (M.1 13 6)])), (ar 14, .inl (cA 0, 70, .inl (M.1 14))), (ar 15, .inl (cA 5, 4, .inr (.inr (.inr (.inr (fun j => some (ar (px_rf 15 j)))))))), (ar 16, .inr (4, [.ref (ar 17), .int (M.1 16 1), .int (M.1 16 2), .int (M.1 16 3)])), (ar 17, .inl (cA 1, 60, .inr (.inl (M.2 17)))), (ar 18, .inr (4, [.ref (ar 19), .int (M.1 18 1), .int (M.1 18 2), .int (M.1 18 3)])), (ar 19, .inl (cA 1, 60, .inr (.inl (M.2 19)))), (ar 20, .inr (4, [.ref (ar 21), .int (M.1 20 1), .int (M.1 20 2), .int (M.1 20 3)])), (ar 21, .inl (cA 1, 60, .inr (.inl (M.2 21)))), (ar 22, .inr (4, [.ref (ar 23), .int (M.1 22 1), .int (M.1 22 2), .int (M.1 22 3)])), (ar 23, .inl (cA 1, 60, .inr (.inl (M.2 23)))), (ar 24, .inr (5, [.ref (ar 25), .ref (ar 26), .ref (ar 27), .int (M.1 24 3)])), (ar 25, .inl (cA 0, 20, .inl (M.1 25))), (ar 26, .inl (cA 0, 20, .inl (M.1 26))), (ar 27, .inl (cA 0, 20, .inl (M.1 27))), (ar 28, .inr (1, [.ref (ar 4), .ref (ar 29), .ref (ar 37), .int (M.1 28 3), .int (M.1 28 4), .int (M.1 28 5), .int (M.1 28 6)])), (ar 29, .inr (9, [.int (M.1 29 0), .int (M.1 29 1), .int (M.1 29 2), .ref (ar 30), .ref (ar 31), .ref (ar 32), .ref (ar 33), .ref (ar 34), .ref (ar 35), .ref (ar 36)])), (ar 30, .inl (cA 0, 16, .inl (M.1 30))), (ar 31, .inl (cA 0, 16, .inl (M.1 31))), (ar 32, .inl (cA 0, 16, .inl (M.1 32))), (ar 33, .inl (cA 0, 128, .inl (M.1 33))), (ar 34, .inl (cA 0, 200, .inl (M.1 34))), (ar 35, .inl (cA 0, 200, .inl (M.1 35))), (ar 36, .inl (cA 0, 200, .inl (M.1 36))), (ar 37, .inl (cA 0, 70, .inl (M.1 37))), (ar 38, .inr (6, [.ref (ar 28), .ref (ar 4), .ref (ar 39), .ref (ar 40), .int (M.1 38 4), .ref (ar 41), .ref (ar 42), .ref (ar 43), .int (M.1 38 8)])), (ar 39, .inl (cA 0, 200, .inl (M.1 39))), (ar 40, .inl (cA 0, 120, .inl (M.1 40))), (ar 41, .inl (cA 6, 71, .inr (.inr (.inr (.inr (fun j => some (ar (px_rf 41 j)))))))), (ar 42, .inl (cA 0, 71, .inl (M.1 42))), (ar 43, .inl (cA 0, 71, .inl (M.1 43))), (ar 44, .inr (2, [.ref (ar 45), .ref (ar 46), .int (M.1 44 2), .int (M.1 44 3)])), (ar 45, .inl (cA 0, 16, .inl (M.1 45))), (ar 46, .inl (cA 0, 15, .inl (M.1 46))), (ar 47, .inr (9, [.int (M.1 47 0), .int (M.1 47 1), .int (M.1 47 2), .ref (ar 48), .ref (ar 49), .ref (ar 50), .ref (ar 51), .ref (ar 52), .ref (ar 53), .ref (ar 54)])), (ar 48, .inl (cA 0, 16, .inl (M.1 48))), (ar 49, .inl (cA 0, 16, .inl (M.1 49))), (ar 50, .inl (cA 0, 16, .inl (M.1 50))), (ar 51, .inl (cA 0, 128, .inl (M.1 51))), (ar 52, .inl (cA 0, 200, .inl (M.1 52))), (ar 53, .inl (cA 0, 200, .inl (M.1 53))), (ar 54, .inl (cA 0, 200, .inl (M.1 54))), (ar 55, .inl (cA 0, 64, .inl (M.1 55)))]
set_option maxRecDepth 100000 in
theorem st_L1_ok (ar : Nat → Nat) (cA : Nat → ClassId) (M : px_Mem) : ([0, 1, 2, 3, 4, 5, 6, 7, 8, 9, 10, 11, 12, 13, 14, 15, 16, 17, 18, 19, 20, 21, 22, 23, 24, 25, 26, 27, 28, 29, 30, 31, 32, 33, 34, 35, 36, 37, 38, 39, 40, 41, 42, 43, 44, 45, 46, 47, 48, 49, 50, 51, 52, 53, 54, 55] : List Nat).map (fun a => (ar a, px_e ar cA M a)) = st_L1 ar cA M := by
  show [(ar 0, px_e ar cA M 0), (ar 1, px_e ar cA M 1), (ar 2, px_e ar cA M 2), (ar 3, px_e ar cA M 3), (ar 4, px_e ar cA M 4), (ar 5, px_e ar cA M 5), (ar 6, px_e ar cA M 6), (ar 7, px_e ar cA M 7), (ar 8, px_e ar cA M 8), (ar 9, px_e ar cA M 9), (ar 10, px_e ar cA M 10), (ar 11, px_e ar cA M 11), (ar 12, px_e ar cA M 12), (ar 13, px_e ar cA M 13), (ar 14, px_e ar cA M 14), (ar 15, px_e ar cA M 15), (ar 16, px_e ar cA M 16), (ar 17, px_e ar cA M 17), (ar 18, px_e ar cA M 18), (ar 19, px_e ar cA M 19), (ar 20, px_e ar cA M 20), (ar 21, px_e ar cA M 21), (ar 22, px_e ar cA M 22), (ar 23, px_e ar cA M 23), (ar 24, px_e ar cA M 24), (ar 25, px_e ar cA M 25), (ar 26, px_e ar cA M 26), (ar 27, px_e ar cA M 27), (ar 28, px_e ar cA M 28), (ar 29, px_e ar cA M 29), (ar 30, px_e ar cA M 30), (ar 31, px_e ar cA M 31), (ar 32, px_e ar cA M 32), (ar 33, px_e ar cA M 33), (ar 34, px_e ar cA M 34), (ar 35, px_e ar cA M 35), (ar 36, px_e ar cA M 36), (ar 37, px_e ar cA M 37), (ar 38, px_e ar cA M 38), (ar 39, px_e ar cA M 39), (ar 40, px_e ar cA M 40), (ar 41, px_e ar cA M 41), (ar 42, px_e ar cA M 42), (ar 43, px_e ar cA M 43), (ar 44, px_e ar cA M 44), (ar 45, px_e ar cA M 45), (ar 46, px_e ar cA M 46), (ar 47, px_e ar cA M 47), (ar 48, px_e ar cA M 48), (ar 49, px_e ar cA M 49), (ar 50, px_e ar cA M 50), (ar 51, px_e ar cA M 51), (ar 52, px_e ar cA M 52), (ar 53, px_e ar cA M 53), (ar 54, px_e ar cA M 54), (ar 55, px_e ar cA M 55)] = _
  rw [pe_0, pe_1, pe_2, pe_3, pe_4, pe_5, pe_6, pe_7, pe_8, pe_9, pe_10, pe_11, pe_12, pe_13, pe_14, pe_15, pe_16, pe_17, pe_18, pe_19, pe_20, pe_21, pe_22, pe_23, pe_24, pe_25, pe_26, pe_27, pe_28, pe_29, pe_30, pe_31, pe_32, pe_33, pe_34, pe_35, pe_36, pe_37, pe_38, pe_39, pe_40, pe_41, pe_42, pe_43, pe_44, pe_45, pe_46, pe_47, pe_48, pe_49, pe_50, pe_51, pe_52, pe_53, pe_54, pe_55]
  rfl
def st_L2 (ar : Nat → Nat) (cA : Nat → ClassId) (M : px_Mem) : va_W := [(ar 56, .inr (11, [.int (M.1 56 0), .ref (ar 57), .ref (ar 58), .ref (ar 59), .ref (ar 60), .int (M.1 56 5), .ref (ar 61), .int (M.1 56 7), .int (M.1 56 8), .int (M.1 56 9), .int (M.1 56 10), .int (M.1 56 11), .int (M.1 56 12), .int (M.1 56 13), .ref (ar 62), .ref (ar 63), .ref (ar 64), .ref (ar 65), .ref (ar 66), .ref (ar 67), .int (M.1 56 20), .int (M.1 56 21), .int (M.1 56 22), .int (M.1 56 23), .ref (ar 68), .ref (ar 69), .ref (ar 70), .int (M.1 56 27), .ref (ar 71), .ref (ar 72), .ref (ar 73), .ref (ar 74), .ref (ar 75), .ref (ar 76), .ref (ar 77), .ref (ar 78), .ref (ar 79), .ref (ar 80), .ref (ar 81), .ref (ar 82), .ref (ar 83), .int (M.1 56 41), .ref (ar 84), .int (M.1 56 43), .ref (ar 85), .ref (ar 86), .int (M.1 56 46), .int (M.1 56 47), .int (M.1 56 48), .int (M.1 56 49), .ref (ar 87), .long (M.2 56 51), .long (M.2 56 52), .long (M.2 56 53), .ref (ar 88), .ref (ar 89), .ref (ar 90), .ref (ar 91)])), (ar 57, .inl (cA 0, 285, .inl (M.1 57))), (ar 58, .inl (cA 0, 855, .inl (M.1 58))), (ar 59, .inl (cA 3, 3, .inl (M.1 59))), (ar 60, .inl (cA 2, 900, .inl (M.1 60))), (ar 61, .inl (cA 0, 5, .inl (M.1 61))), (ar 62, .inl (cA 0, 285, .inl (M.1 62))), (ar 63, .inl (cA 0, 72, .inl (M.1 63))), (ar 64, .inl (cA 0, 72, .inl (M.1 64))), (ar 65, .inl (cA 0, 72, .inl (M.1 65))), (ar 66, .inl (cA 0, 72, .inl (M.1 66))), (ar 67, .inl (cA 3, 72, .inl (M.1 67))), (ar 68, .inl (cA 0, 16, .inl (M.1 68))), (ar 69, .inl (cA 0, 16, .inl (M.1 69))), (ar 70, .inl (cA 0, 128, .inl (M.1 70))), (ar 71, .inl (cA 0, 200, .inl (M.1 71))), (ar 72, .inl (cA 0, 200, .inl (M.1 72))), (ar 73, .inl (cA 0, 72, .inl (M.1 73))), (ar 74, .inl (cA 0, 72, .inl (M.1 74))), (ar 75, .inl (cA 0, 72, .inl (M.1 75))), (ar 76, .inl (cA 0, 73, .inl (M.1 76))), (ar 77, .inl (cA 0, 73, .inl (M.1 77))), (ar 78, .inl (cA 0, 1168, .inl (M.1 78))), (ar 79, .inl (cA 0, 1168, .inl (M.1 79))), (ar 80, .inl (cA 0, 9344, .inl (M.1 80))), (ar 81, .inl (cA 0, 14600, .inl (M.1 81))), (ar 82, .inl (cA 0, 200, .inl (M.1 82))), (ar 83, .inl (cA 0, 120, .inl (M.1 83))), (ar 84, .inl (cA 0, 37230, .inl (M.1 84))), (ar 85, .inl (cA 0, 16, .inl (M.1 85))), (ar 86, .inl (cA 0, 16, .inl (M.1 86))), (ar 87, .inl (cA 0, 64, .inl (M.1 87))), (ar 88, .inl (cA 0, 4, .inl (M.1 88))), (ar 89, .inl (cA 0, 4, .inl (M.1 89))), (ar 90, .inl (cA 1, 240, .inr (.inl (M.2 90)))), (ar 91, .inl (cA 1, 60, .inr (.inl (M.2 91))))]
set_option maxRecDepth 100000 in
theorem st_L2_ok (ar : Nat → Nat) (cA : Nat → ClassId) (M : px_Mem) : ([56, 57, 58, 59, 60, 61, 62, 63, 64, 65, 66, 67, 68, 69, 70, 71, 72, 73, 74, 75, 76, 77, 78, 79, 80, 81, 82, 83, 84, 85, 86, 87, 88, 89, 90, 91] : List Nat).map (fun a => (ar a, px_e ar cA M a)) = st_L2 ar cA M := by
  show [(ar 56, px_e ar cA M 56), (ar 57, px_e ar cA M 57), (ar 58, px_e ar cA M 58), (ar 59, px_e ar cA M 59), (ar 60, px_e ar cA M 60), (ar 61, px_e ar cA M 61), (ar 62, px_e ar cA M 62), (ar 63, px_e ar cA M 63), (ar 64, px_e ar cA M 64), (ar 65, px_e ar cA M 65), (ar 66, px_e ar cA M 66), (ar 67, px_e ar cA M 67), (ar 68, px_e ar cA M 68), (ar 69, px_e ar cA M 69), (ar 70, px_e ar cA M 70), (ar 71, px_e ar cA M 71), (ar 72, px_e ar cA M 72), (ar 73, px_e ar cA M 73), (ar 74, px_e ar cA M 74), (ar 75, px_e ar cA M 75), (ar 76, px_e ar cA M 76), (ar 77, px_e ar cA M 77), (ar 78, px_e ar cA M 78), (ar 79, px_e ar cA M 79), (ar 80, px_e ar cA M 80), (ar 81, px_e ar cA M 81), (ar 82, px_e ar cA M 82), (ar 83, px_e ar cA M 83), (ar 84, px_e ar cA M 84), (ar 85, px_e ar cA M 85), (ar 86, px_e ar cA M 86), (ar 87, px_e ar cA M 87), (ar 88, px_e ar cA M 88), (ar 89, px_e ar cA M 89), (ar 90, px_e ar cA M 90), (ar 91, px_e ar cA M 91)] = _
  rw [pe_56, pe_57, pe_58, pe_59, pe_60, pe_61, pe_62, pe_63, pe_64, pe_65, pe_66, pe_67, pe_68, pe_69, pe_70, pe_71, pe_72, pe_73, pe_74, pe_75, pe_76, pe_77, pe_78, pe_79, pe_80, pe_81, pe_82, pe_83, pe_84, pe_85, pe_86, pe_87, pe_88, pe_89, pe_90, pe_91]
  rfl
