/-! the three arrays of references, by the machine's places -/
theorem st_set1 {X V : va_W} {e : Nat × va_E} {i : Nat} (h : i < X.length) : (X ++ V).set i e = X.set i e ++ V := by
  induction X generalizing i with
  | nil => exact absurd h (Nat.not_lt_zero _)
  | cons a X ih =>
    cases i with
    | zero => rfl
    | succ i =>
      show a :: (X ++ V).set i e = a :: (X.set i e ++ V)
      rw [ih (Nat.lt_of_succ_lt_succ h)]
theorem st_set {X V P : va_W} {e : Nat × va_E} {i : Nat} (h : i < X.length) : ((X ++ V) ++ P).set i e = (X.set i e ++ V) ++ P := by
  rw [st_set1 (by rw [List.length_append]; omega), st_set1 h]
theorem st_get {X V P : va_W} {e : Nat × va_E} {i : Nat} (h : X[i]? = some e) : ((X ++ V) ++ P)[i]? = some e := by
  have hi := (List.getElem?_eq_some_iff.mp h).1
  rw [List.getElem?_append_left (by rw [List.length_append]; omega), List.getElem?_append_left hi]
  exact h
theorem st_cellq {c : ClassId} {n : Nat} {f g : Nat → Option Nat} (h : ∀ j, j < n → f j = g j) : vp_cell c (n, .inr (.inr (.inr (.inr f)))) = vp_cell c (n, .inr (.inr (.inr (.inr g)))) := by
  rw [vp_cell_q, vp_cell_q]
  exact st_arrV (fun j hj => by rw [h j hj])
def st_f8 (u : Nat → Nat) : Nat → Option Nat := va_up (va_up (va_up (fun _ => none) 0 (some (u 9))) 1 (some (u 11))) 2 (some (u 13))
def st_f15 (u : Nat → Nat) : Nat → Option Nat := va_up (va_up (va_up (va_up (fun _ => none) 0 (some (u 16))) 1 (some (u 18))) 2 (some (u 20))) 3 (some (u 22))
theorem st_g8 {q0 q56 : Nat} {u v o : Nat → Nat} : ∀ j, j < 3 → st_f8 u j = some (st_ar q0 u q56 v o (px_rf 8 j)) := by
  intro j hj
  rcases (show j = 0 ∨ j = 1 ∨ j = 2 by omega) with rfl | rfl | rfl <;> rfl
theorem st_g15 {q0 q56 : Nat} {u v o : Nat → Nat} : ∀ j, j < 4 → st_f15 u j = some (st_ar q0 u q56 v o (px_rf 15 j)) := by
  intro j hj
  rcases (show j = 0 ∨ j = 1 ∨ j = 2 ∨ j = 3 by omega) with rfl | rfl | rfl | rfl <;> rfl
theorem st_g41 {q0 q56 : Nat} {u v o : Nat → Nat} : ∀ j, j < 71 → some (u 41 + 1 + j) = some (st_ar q0 u q56 v o (px_rf 41 j)) := by
  intro j hj
  rw [st_rf41 j hj, st_ar92 hj]
theorem st_x8 {cA : Nat → ClassId} {q0 : Nat} {u : (Nat → Nat) × px_Mem × px_Mem} : (x_FrozenTrees cA q0 u)[8]? = some (u.1 8, .inl (cA 4, 3, .inr (.inr (.inr (.inr (st_f8 u.1)))))) := rfl
theorem st_x15 {cA : Nat → ClassId} {q0 : Nat} {u : (Nat → Nat) × px_Mem × px_Mem} : (x_FrozenTrees cA q0 u)[15]? = some (u.1 15, .inl (cA 5, 4, .inr (.inr (.inr (.inr (st_f15 u.1)))))) := rfl
theorem st_x41 {cA : Nat → ClassId} {q0 : Nat} {u : (Nat → Nat) × px_Mem × px_Mem} : (x_FrozenTrees cA q0 u)[41]? = some (u.1 41, .inl (cA 6, 71, .inr (.inr (.inr (.inr (fun j => some (u.1 41 + 1 + j))))))) := rfl
theorem st_xl {cA : Nat → ClassId} {q0 : Nat} {u : (Nat → Nat) × px_Mem × px_Mem} : (x_FrozenTrees cA q0 u).length = 56 := rfl
set_option maxRecDepth 100000 in
theorem st_xy {cA : Nat → ClassId} {ar : Nat → Nat} {q0 : Nat} {u : (Nat → Nat) × px_Mem × px_Mem} : (((x_FrozenTrees cA q0 u).set 8 (u.1 8, .inl (cA 4, 3, .inr (.inr (.inr (.inr (fun j => some (ar (px_rf 8 j))))))))).set 15 (u.1 15, .inl (cA 5, 4, .inr (.inr (.inr (.inr (fun j => some (ar (px_rf 15 j))))))))).set 41 (u.1 41, .inl (cA 6, 71, .inr (.inr (.inr (.inr (fun j => some (ar (px_rf 41 j)))))))) = y_FrozenTrees cA ar q0 u := rfl
section STC
variable {p : Program} {l : Launch} {e : Env} {R : Room} {s : State} {m : MethodId} {args : Array Value} {below : List Frame} {meth : Method} {c : Code} {Q : State → Prop} {D : va_G} {cA : Nat → ClassId} {A : Nat → Prop} {nL cells slots pc : Nat} {lv : List (Nat × Value)} {st : List Value}
theorem st_conv {V P : va_W} {q0 q56 : Nat} {u : (Nat → Nat) × px_Mem × px_Mem} {v o : Nat → Nat} (h : ct_G p l e R s m args below meth c Q D A nL cells slots pc lv st ((y_FrozenTrees cA (st_ar q0 u.1 q56 v o) q0 u ++ V) ++ P)) : ct_G p l e R s m args below meth c Q D A nL cells slots pc lv st ((x_FrozenTrees cA q0 u ++ V) ++ P) := by
  have l0 := st_xl (cA := cA) (q0 := q0) (u := u)
  refine ct_cell (a1 := (3, .inr (.inr (.inr (.inr (fun j => some (st_ar q0 u.1 q56 v o (px_rf 8 j)))))))) 8 (st_get st_x8) (st_cellq st_g8) (st_set (by rw [l0]; decide)) ?_
  refine ct_cell (a1 := (4, .inr (.inr (.inr (.inr (fun j => some (st_ar q0 u.1 q56 v o (px_rf 15 j)))))))) 15 (st_get (by rw [List.getElem?_set_ne (by decide)]; exact st_x15)) (st_cellq st_g15) (st_set (by rw [List.length_set, l0]; decide)) ?_
  refine ct_cell (a1 := (71, .inr (.inr (.inr (.inr (fun j => some (st_ar q0 u.1 q56 v o (px_rf 41 j)))))))) 41 (st_get (by rw [List.getElem?_set_ne (by decide), List.getElem?_set_ne (by decide)]; exact st_x41)) (st_cellq st_g41) (st_set (by rw [List.length_set, List.length_set, l0]; decide)) ?_
  rw [st_xy]
  exact h
end STC
