/-! what the Statement gives of the start -/
theorem st_inst {ci : Nat} {r : vw_C} (h : px_cls[ci]? = some r) : ∃ n, Cond.instantiable r.1 n ∈ px_gw := by
  match ci, h with
  | 0, h => cases h; exact ⟨2, px_w_in (i := 156) (by decide +kernel)⟩
  | 1, h => cases h; exact ⟨7, px_w_in (i := 288) (by decide +kernel)⟩
  | 2, h => cases h; exact ⟨4, px_w_in (i := 413) (by decide +kernel)⟩
  | 3, h => cases h; exact ⟨7, px_w_in (i := 172) (by decide +kernel)⟩
  | 4, h => cases h; exact ⟨4, px_w_in (i := 242) (by decide +kernel)⟩
  | 5, h => cases h; exact ⟨4, px_w_in (i := 268) (by decide +kernel)⟩
  | 6, h => cases h; exact ⟨9, px_w_in (i := 377) (by decide +kernel)⟩
  | 7, h => cases h; exact ⟨7, px_w_in (i := 202) (by decide +kernel)⟩
  | 8, h => cases h; exact ⟨2, px_w_in (i := 156) (by decide +kernel)⟩
  | 9, h => cases h; exact ⟨10, px_w_in (i := 294) (by decide +kernel)⟩
  | 10, h => cases h; exact ⟨12, px_w_in (i := 148) (by decide +kernel)⟩
  | 11, h => cases h; exact ⟨58, px_w_in (i := 1285) (by decide +kernel)⟩
  | n + 12, h =>
    rw [List.getElem?_eq_none (by show 12 ≤ _; omega)] at h
    cases h
theorem st_arr {args : Array Value} {s : State} {ty : FieldType} (hno : ∀ C, ty ≠ .object C) (h : (Cond.arrayClass ty).before args s = true) : ∃ c, ArrOfT s c ty ∧ va_RA s c ty := by
  obtain ⟨c, k, comp, h1, h2, h3⟩ := Cond.arrayClass_spec h
  refine ⟨c, fun n z => ⟨fun k h => (by cases h), k, h2, comp, h3⟩, ?_⟩
  cases ty with
  | object C => exact absurd rfl (hno C)
  | _ => exact h1
theorem st_arq {args : Array Value} {s : State} {C : String} (h : (Cond.arrayOver (.object C)).before args s = true) : ∃ c, ArrOfT s c (.object C) ∧ va_RA s c (.object C) := by
  obtain ⟨comp, c, k, h1, -, h2, h3, h4⟩ := Cond.arrayOver_spec h
  exact ⟨c, fun n z => ⟨fun k h => (by cases h), k, h2, comp, h3⟩, k, comp, h2, h3, h1, h4⟩
theorem st_ars {args : Array Value} {s : State} (h : (Cond.arrayOver (.array .long)).before args s = true) : ∃ c, ArrOfT s c (.array .long) ∧ va_RA s c (.array .long) := by
  obtain ⟨comp, c, k, h1, -, h2, h3, h4⟩ := arrayOverA_spec h
  exact ⟨c, fun n z => ⟨fun k h => (by cases h), k, h2, comp, h3⟩, h4⟩
theorem st_K {args : Array Value} {s : State} (hall : ∀ w ∈ lw_tbl, w.before args s = true) : ∃ (D : va_G) (cA : Nat → ClassId), ct_K D cA s := by
  have hts : ∀ w ∈ px_gw, w.before args s = true := fun w hw => hall w (px_gw_tbl hw)
  have h1 : ∀ ci : Nat, ∃ q : ClassId × (Nat → Nat), ∀ r, px_cls[ci]? = some r → u_Kn s r.1 r.2.1 r.2.2 q.1 q.2 := by
    intro ci
    cases h : px_cls[ci]? with
    | none => exact ⟨(0, fun _ => 0), fun r hr => by cases hr⟩
    | some r =>
      obtain ⟨n, hn⟩ := st_inst h
      obtain ⟨c, iS, hk⟩ := u_known hts (px_cls_ok h).1 (hts _ hn)
      exact ⟨(c, iS), fun r' hr => by cases hr; exact hk⟩
  have h2 : ∀ t : Nat, ∃ c : ClassId, t < 7 → ArrOfT s c (px_aty t) ∧ va_RA s c (px_aty t) := by
    intro t
    match t with
    | 0 =>
      obtain ⟨c, hc⟩ := st_arr (ty := .int) (fun C h => by cases h) (hts _ (px_w_in (i := 170) (by decide +kernel)))
      exact ⟨c, fun _ => hc⟩
    | 1 =>
      obtain ⟨c, hc⟩ := st_arr (ty := .long) (fun C h => by cases h) (hts _ (px_w_in (i := 266) (by decide +kernel)))
      exact ⟨c, fun _ => hc⟩
    | 2 =>
      obtain ⟨c, hc⟩ := st_arr (ty := .byte) (fun C h => by cases h) (hts _ (px_w_in (i := 669) (by decide +kernel)))
      exact ⟨c, fun _ => hc⟩
    | 3 =>
      obtain ⟨c, hc⟩ := st_arr (ty := .boolean) (fun C h => by cases h) (hts _ (px_w_in (i := 1465) (by decide +kernel)))
      exact ⟨c, fun _ => hc⟩
    | 4 =>
      obtain ⟨c, hc⟩ := st_arq (C := "FrozenTrees$Story") (hall _ (List.mem_of_getElem? (i := 239) (by decide +kernel)))
      exact ⟨c, fun _ => hc⟩
    | 5 =>
      obtain ⟨c, hc⟩ := st_arq (C := "FrozenTrees$Row") (hall _ (List.mem_of_getElem? (i := 241) (by decide +kernel)))
      exact ⟨c, fun _ => hc⟩
    | 6 =>
      obtain ⟨c, hc⟩ := st_ars (hall _ (List.mem_of_getElem? (i := 383) (by decide +kernel)))
      exact ⟨c, fun _ => hc⟩
    | n + 7 => exact ⟨0, fun h => absurd h (by omega)⟩
  obtain ⟨D0, hD0⟩ := Classical.axiomOfChoice h1
  obtain ⟨cA, hcA⟩ := Classical.axiomOfChoice h2
  refine ⟨(fun c => (D0 c).1, fun c => (D0 c).2), cA, ⟨fun c q hq => hD0 c q hq, fun k q hk => ?_⟩, va_AO.of (hall _ (List.mem_of_getElem? (i := 239) (by decide +kernel))), va_AO.of (hall _ (List.mem_of_getElem? (i := 241) (by decide +kernel))), mq_AO.of (hall _ (List.mem_of_getElem? (i := 383) (by decide +kernel))) (hts _ (px_w_in (i := 266) (by decide +kernel))), fun q hq => ?_⟩
  · have hk2 : ((List.range 7).map (fun t => (cA t, px_aty t)))[k]? = some q := hk
    rw [List.getElem?_map] at hk2
    by_cases h7 : k < 7
    · rw [List.getElem?_range h7] at hk2
      cases hk2
      exact hcA k h7
    · rw [List.getElem?_eq_none (by rw [List.length_range]; omega)] at hk2
      cases hk2
  · obtain ⟨i, hi⟩ := List.getElem?_of_mem hq
    match i, hi with
    | 0, hi => cases hi; exact va_Nw.of rfl (hall _ (List.mem_of_getElem? (i := 157) (by decide +kernel)))
    | 1, hi => cases hi; exact va_Nw.of rfl (hall _ (List.mem_of_getElem? (i := 203) (by decide +kernel)))
    | 2, hi => cases hi; exact va_Nw.of rfl (hall _ (List.mem_of_getElem? (i := 243) (by decide +kernel)))
    | 3, hi => cases hi; exact va_Nw.of rfl (hall _ (List.mem_of_getElem? (i := 269) (by decide +kernel)))
    | 4, hi => cases hi; exact va_Nw.of rfl (hall _ (List.mem_of_getElem? (i := 414) (by decide +kernel)))
    | n + 5, hi => cases hi
/-! the old cells: statics and texts -/
def st_own (t : Nat) : String := if t < 11 then "FrozenTrees$Code" else "FrozenTrees$Reader"
def st_cp (t : Nat) : Nat := [33, 35, 37, 39, 41, 43, 45, 47, 49, 51, 53, 46, 52, 60].getD t 0
def st_tm (t : Nat) : Term := .string (st_own t) (st_cp t)
def st_val (t : Nat) : Term := .field (st_tm t) "java/lang/String" "value" "[B"
def st_ps (t : Nat) : Nat := [76, 84, 92, 100, 108, 116, 124, 133, 142, 150, 159, 51, 61, 68].getD t 0 + 2
def st_fl : List Cond := flatC (Jvm.Cond.and given_1 narrow_1)
theorem st_x1 : ∀ t, t < 14 → st_fl[st_ps t]? = some (.exactly (st_tm t) "java/lang/String") := by decide +kernel
theorem st_x2 : ∀ t, t < 14 → st_fl[st_ps t + 1]? = some (.eq (.field (st_tm t) "java/lang/String" "coder" "B") (.int 0)) := by decide +kernel
theorem st_x3 : ∀ t, t < 14 → st_fl[st_ps t + 2]? = some (.arrayOf (st_val t) .byte) := by decide +kernel
theorem st_x4 : ∀ t, t < 14 → st_fl[st_ps t + 3]? = some (.eq (.length (st_val t)) (.int (Int32.ofNat (px_str.getD t []).length))) := by decide +kernel
theorem st_x5 : ∀ t, t < 14 → ∀ j, j < (px_str.getD t []).length → st_fl[st_ps t + 4 + j]? = some (.eq (.elem (st_val t) (.int (Int32.ofNat j))) (.int ((px_str.getD t []).getD j 0))) := by decide +kernel
theorem st_x6 : ∀ t, t < 14 → (px_str.getD t []).length < 2 ^ 31 := by decide +kernel
def st_kk (own : Nat) (e : Nat × Nat × Nat) : Bool := decide (lw_tbl[e.2.2]? = some (.stringRef (px_cn own) e.1 (px_txt.getD e.2.1 ""))) && decide (e.2.1 < 14) && (decide (px_cn own = st_own e.2.1 ∧ e.1 = st_cp e.2.1) || decide (Cond.eq (st_tm e.2.1) (.string (px_cn own) e.1) ∈ st_fl))
theorem st_kk_d : (List.range 21).all (fun o => (px_ksl.getD o []).all (st_kk o)) = true := by decide +kernel
theorem st_kk_l : px_ksl.length ≤ 21 := by decide
theorem st_kk_all (own : Nat) : (px_ksl.getD own []).all (st_kk own) = true := by
  by_cases h : own < 21
  · exact List.all_eq_true.mp st_kk_d own (List.mem_range.mpr h)
  · have := st_kk_l
    rw [List.getD_eq_getElem?_getD, List.getElem?_eq_none (by omega)]
    rfl
def st_ro (L : Nat) (xs : Nat → Int32) : Nat → Nat → Int32 := fun a j => if a = 999 then nI L else if a = 1000 then xs j else if a = 1001 then nI ([2, 1, 1, 2, 3, 3, 2, 3, 3, 2].getD j 0) else if a = 1002 then nI ([120, 24, 12, 12, 24, 120].getD j 0) else if 1200 ≤ a then (px_str.getD (a - 1200) []).getD j 0 else 0
theorem st_n1 : ∀ j, j < 10 → st_fl[12 + j]? = some (.eq (.elem (.static "FrozenTrees$Code" "NUMBERS" "[I") (.int (Int32.ofNat j))) (.int (nI ([2, 1, 1, 2, 3, 3, 2, 3, 3, 2].getD j 0)))) := by decide +kernel
theorem st_n2 : ∀ j, j < 6 → st_fl[25 + j]? = some (.eq (.elem (.static "FrozenTrees" "ORDERS" "[I") (.int (Int32.ofNat j))) (.int (nI ([120, 24, 12, 12, 24, 120].getD j 0)))) := by decide +kernel
theorem st_ST {args : Array Value} {s : State} {b L : Nat} {xs : Nat → Int32} (hall : ∀ w ∈ lw_tbl, w.before args s = true) (hgv : (Jvm.Cond.and given_1 narrow_1).before args s = true) (hX : va_X b L xs s s.heap) (hbl : b < s.heap.size) (hL : L ≤ 3072) : ∃ (o : Nat → Nat) (fv : Value), (fv = .null ∨ ∃ t, fv = .ref t) ∧ o 1000 = b ∧ ∀ ar : Nat → Nat, (∀ a, 1000 ≤ a → ar a = o a) → px_STb ar fv (st_ro L xs) (fun q => s.heap.size ≤ q) L s s.heap := by
  have hfl : ∀ w ∈ st_fl, w.before args s = true := flat_of_before _ hgv
  have hA : ∀ a : Nat, a < s.heap.size → ¬ (fun q : Nat => s.heap.size ≤ q) a := fun a h => Nat.not_le.mpr h
  have hw : ∀ {i : Nat} {w : Cond}, lw_tbl[i]? = some w → w.before args s = true := fun h => hall _ (List.mem_of_getElem? h)
  have hf : ∀ {i : Nat} {w : Cond}, st_fl[i]? = some w → w.before args s = true := fun h => hfl _ (List.mem_of_getElem? h)
  obtain ⟨n1, e1, hT1⟩ := va_Tof (s := s) (args := args) (tm := .static "FrozenTrees$Code" "NUMBERS" "[I") (ty := .int) (N := 10) (f := fun j => .int (nI ([2, 1, 1, 2, 3, 3, 2, 3, 3, 2].getD j 0))) (A := fun q : Nat => s.heap.size ≤ q) (by decide) (hf (i := 10) (by decide +kernel)) (va_eqt (hf (i := 11) (by decide +kernel))) (fun j hj => va_eqt (hf (st_n1 j hj))) hA
  obtain ⟨n2, e2, hT2⟩ := va_Tof (s := s) (args := args) (tm := .static "FrozenTrees" "ORDERS" "[I") (ty := .int) (N := 6) (f := fun j => .int (nI ([120, 24, 12, 12, 24, 120].getD j 0))) (A := fun q : Nat => s.heap.size ≤ q) (by decide) (hf (i := 23) (by decide +kernel)) (va_eqt (hf (i := 24) (by decide +kernel))) (fun j hj => va_eqt (hf (st_n2 j hj))) hA
  have hZ1 := va_Zref (A := fun q : Nat => s.heap.size ≤ q) (hw (i := 627) (by decide +kernel)) (hw (i := 144) (by decide +kernel)) e1 hA
  have hZ2 := va_Zref (A := fun q : Nat => s.heap.size ≤ q) (hw (i := 1147) (by decide +kernel)) (hw (i := 127) (by decide +kernel)) e2 hA
  have hZ3 := va_Zof (args := args) (A := fun q : Nat => s.heap.size ≤ q) (C := "java/lang/String") (n := "COMPACT_STRINGS") (d := "Z") (v := .int 1) (hw (i := 548) (by decide +kernel)) (hw (i := 140) (by decide +kernel)) (va_eqt (hf (i := 4) (by decide +kernel))) hA
  have hZ4 := va_Zqof (args := args) (A := fun q : Nat => s.heap.size ≤ q) (C := "jdk/internal/util/Preconditions") (n := "SIOOBE_FORMATTER") (d := "Ljava/util/function/BiFunction;") (hw (i := 564) (by decide +kernel)) (hw (i := 142) (by decide +kernel)) (hf (i := 5) (by decide +kernel)) hA
  have h0 : ∀ i : Nat, ∃ q : Nat × Nat, i < 14 → (st_tm i).eval args s none [] s = some (.ref q.1) ∧ va_O "java/lang/String" q.1 (fun q : Nat => s.heap.size ≤ q) s s.heap ∧ va_OF "java/lang/String" "coder" "B" (.int 0) q.1 (fun q : Nat => s.heap.size ≤ q) s s.heap ∧ va_OF "java/lang/String" "value" "[B" (.ref q.2) q.1 (fun q : Nat => s.heap.size ≤ q) s s.heap ∧ va_T .byte q.2 (px_str.getD i []).length (fun j => .int ((px_str.getD i []).getD j 0)) (fun q : Nat => s.heap.size ≤ q) s s.heap := by
    intro i
    by_cases hi : i < 14
    · obtain ⟨a, c, cA, kA, q1, -⟩ := Cond.exactly_spec (args := args) (first := s) (o := none) (s := s) (idx := []) (t := st_tm i) (cls := "java/lang/String") (hf (st_x1 i hi))
      obtain ⟨t, ht, hT⟩ := va_Tof (f := fun j => .int ((px_str.getD i []).getD j 0)) (A := fun q : Nat => s.heap.size ≤ q) (st_x6 i hi) (hf (st_x3 i hi)) (va_eqt (hf (st_x4 i hi))) (fun j hj => va_eqt (hf (st_x5 i hi j hj))) hA
      exact ⟨(a, t), fun _ => ⟨q1, va_Oof (hf (st_x1 i hi)) q1 hA, vk_OFof q1 (va_eqt (hf (st_x2 i hi))) hA, vk_OFof q1 ht hA, hT⟩⟩
    · exact ⟨(0, 0), fun h => absurd h hi⟩
  obtain ⟨ad, had⟩ := Classical.axiomOfChoice h0
  obtain ⟨fv, hfv, hZ5⟩ : ∃ fv : Value, (fv = .null ∨ ∃ t, fv = .ref t) ∧ va_Z "jdk/internal/util/Preconditions" "SIOOBE_FORMATTER" "Ljava/util/function/BiFunction;" fv (fun q : Nat => s.heap.size ≤ q) s s.heap := by
    rcases hZ4 with h | ⟨t, h⟩
    · exact ⟨_, Or.inl rfl, h⟩
    · exact ⟨_, Or.inr ⟨t, rfl⟩, h⟩
  refine ⟨fun a => if a = 1000 then b else if a = 1001 then n1 else if a = 1002 then n2 else if a < 1200 then (ad (a - 1100)).1 else (ad (a - 1200)).2, fv, hfv, rfl, fun ar har => ?_⟩
  have a0 : ar 1000 = b := (har 1000 (by omega)).trans rfl
  have a1 : ar 1001 = n1 := (har 1001 (by omega)).trans rfl
  have a2 : ar 1002 = n2 := (har 1002 (by omega)).trans rfl
  have a3 : ∀ i, i < 14 → ar (1100 + i) = (ad i).1 := fun i hi => by
    rw [har (1100 + i) (by omega)]
    dsimp only
    rw [if_neg (by omega), if_neg (by omega), if_neg (by omega), if_pos (by omega), show 1100 + i - 1100 = i by omega]
  have a4 : ∀ i, i < 14 → ar (1200 + i) = (ad i).2 := fun i hi => by
    rw [har (1200 + i) (by omega)]
    dsimp only
    rw [if_neg (by omega), if_neg (by omega), if_neg (by omega), if_neg (by omega), show 1200 + i - 1200 = i by omega]
  have r1 : ∀ i, i < 14 → st_ro L xs (1100 + i) 1 = 0 := fun i hi => by
    unfold st_ro
    rw [if_neg (by omega), if_neg (by omega), if_neg (by omega), if_neg (by omega), if_neg (by omega)]
  have r2 : ∀ i j, i < 14 → st_ro L xs (1200 + i) j = (px_str.getD i []).getD j 0 := fun i j hi => by
    unfold st_ro
    rw [if_neg (by omega), if_neg (by omega), if_neg (by omega), if_neg (by omega), if_pos (by omega), show 1200 + i - 1200 = i by omega]
  refine ⟨⟨by rw [a1]; exact hZ1, by rw [a1]; exact hT1⟩, ⟨by rw [a2]; exact hZ2, by rw [a2]; exact hT2⟩, ⟨hZ3, hZ5⟩, fun i hi => ?_, fun own cp t pl h => ?_, fun e he => ?_, ⟨by rw [a0]; exact hX, by rw [a0]; exact hA b hbl, by rw [a0]; exact hbl, rfl, hL⟩⟩
  · obtain ⟨-, g1, g2, g3, g4⟩ := had i hi
    rw [a3 i hi, a4 i hi, r1 i hi]
    refine ⟨g1, g2, g3, ?_⟩
    rw [show (fun j => Value.int (st_ro L xs (1200 + i) j)) = fun j => .int ((px_str.getD i []).getD j 0) from funext fun j => by rw [r2 i j hi]]
    exact g4
  · have hk := List.all_eq_true.mp (st_kk_all own) _ (px_lk_in h)
    unfold st_kk at hk
    simp only [Bool.and_eq_true, Bool.or_eq_true, decide_eq_true_eq] at hk
    obtain ⟨⟨k1, k2⟩, k3⟩ := hk
    rw [a3 t k2]
    have hev := (had t k2).1
    refine vk_R.of (A := args) (hw k1) ?_
    rcases k3 with ⟨z1, z2⟩ | z
    · have z3 : st_tm t = .string (px_cn own) cp := by
        unfold st_tm
        rw [z1, z2]
      rw [← z3]
      exact hev
    · exact va_eqR (hfl _ z) hev
  · obtain ⟨i, hi⟩ := List.getElem?_of_mem he
    match i, hi with
    | 0, hi => cases hi; exact va_Nw.of rfl (hw (i := 997) (by decide +kernel))
    | 1, hi => cases hi; exact va_Nw.of rfl (hw (i := 721) (by decide +kernel))
    | n + 2, hi => cases hi
