set_option maxHeartbeats 8000000 in
set_option maxRecDepth 200000 in
/-- from the entry, for every script of at most 3072 ints, the law comes to its end with true -/
theorem whole_start {p : Program} {e : Env} {s : State} {m : MethodId} {below : List Frame} {meth : Method} {c : Code} (l : Launch) (hflags : l.flags = flags0) {b L : Nat} {xs : Nat → Int32} (hL : L ≤ 3072) (C0 : lw_At p s m meth c b L xs) : W p l e room_1 s m #[Value.ref b] below meth c s.heap [] 0 0 (lw_Z below #[Value.ref b] s) (entryFrame m ([Value.ref b] : List Value).toArray 4) := by
  obtain ⟨hx, hb, hr, hml, hown, hts, hX, hbl, hlocks, hgv⟩ := C0
  obtain ⟨D, cA, hK⟩ := st_K hts
  obtain ⟨o, fv, hfv, ho, hST⟩ := st_ST hts hgv hX hbl hL
  have C : ct_C p s m #[Value.ref b] c code "FrozenTreesLaw" 4 D cA (fun q => s.heap.size ≤ q) := ⟨hx, hb, hml, hown, fun w hw => hts w (px_gw_tbl hw), hK, fun _ h => h⟩
  have hl0 := lv_entry ([.ref b]) (n := 4) (Nat.le_of_ble_eq_true rfl)
  rw [lg_entry_eq]
  have G : ct_G p l e room_1 s m #[Value.ref b] below meth c (lw_Z below #[Value.ref b] s) D (fun q => s.heap.size ≤ q) 4 0 0 0 (lv_args 0 [.ref b]) [] [] := by
    refine ct_new (pc := 0) (cells := 0) (slots := 0) (idx := 7) (ci := 10) (fs := [.null, .null, .null, .null, .null, .null, .null, .null, .null, .null, .null, .null]) C (by decide +kernel) rfl (px_w_in (i := 147) (by decide +kernel)) (px_w_in (i := 148) (by decide +kernel)) (px_w_in (i := 127) (by decide +kernel)) (by decide +kernel) (by decide) (by decide) (fun q0 => ?_)
    refine ct_dup (pc := 3) (cells := 1) (slots := 12) C (by decide +kernel) ?_
    refine ct_call (pc := 4) (cells := 1) (slots := 12) (idx := 9) (n := 0) (As := []) (st := [.ref q0]) C (fun sz => c_FrozenTrees l D cA q0 sz) (by decide +kernel) rfl (by decide +kernel) (px_w_in (i := 151) (by decide +kernel)) (px_w_in (i := 127) (by decide +kernel)) (px_w_in (i := 149) (by decide +kernel)) (px_w_in (i := 150) (by decide +kernel)) rfl rfl (by decide) (by decide) rfl rfl (Nat.le_of_ble_eq_true rfl) (fun u hu => ?_)
    refine ct_astore (pc := 7) (cells := 127) (slots := 7118) (j := 1) C (by decide +kernel) (by decide) rfl ?_
    refine ct_new (pc := 8) (cells := 127) (slots := 7118) (idx := 10) (ci := 11) (fs := [.int 0, .null, .null, .null, .null, .int 0, .null, .int 0, .int 0, .int 0, .int 0, .int 0, .int 0, .int 0, .null, .null, .null, .null, .null, .null, .int 0, .int 0, .int 0, .int 0, .null, .null, .null, .int 0, .null, .null, .null, .null, .null, .null, .null, .null, .null, .null, .null, .null, .null, .int 0, .null, .int 0, .null, .null, .int 0, .int 0, .int 0, .int 0, .null, .long 0, .long 0, .long 0, .null, .null, .null, .null]) C (by decide +kernel) rfl (px_w_in (i := 1284) (by decide +kernel)) (px_w_in (i := 1285) (by decide +kernel)) (px_w_in (i := 138) (by decide +kernel)) (by decide +kernel) (by decide) (by decide) (fun q56 => ?_)
    refine ct_dup (pc := 11) (cells := 128) (slots := 7176) C (by decide +kernel) ?_
    refine ct_call (pc := 12) (cells := 128) (slots := 7176) (idx := 12) (n := 0) (As := []) (st := [.ref q56]) C (fun sz => c_Model l D cA q56 sz) (by decide +kernel) rfl (by decide +kernel) (px_w_in (i := 1288) (by decide +kernel)) (px_w_in (i := 138) (by decide +kernel)) (px_w_in (i := 1286) (by decide +kernel)) (px_w_in (i := 1287) (by decide +kernel)) rfl rfl (by decide) (by decide) rfl rfl (Nat.le_of_ble_eq_true rfl) (fun v _ => ?_)
    refine ct_astore (pc := 15) (cells := 163) (slots := 75025) (j := 2) C (by decide +kernel) (by decide) rfl ?_
    refine ct_iconst (pc := 16) (cells := 163) (slots := 75025) (n := 0) (x := 0) C (by decide +kernel) (by decide) ?_
    refine ct_istore (pc := 17) (cells := 163) (slots := 75025) (j := 3) C (by decide +kernel) (by decide) rfl ?_
    refine ct_ws (ws' := (x_FrozenTrees cA q0 u ++ ct_pics cA (u.1 41)) ++ w_Model cA q56 v) rfl ?_
    refine ct_swap ?_
    refine st_conv (q56 := q56) (v := v.1) (o := o) ?_
    refine ct_ws (st_ws (L := L) (xs := xs)) ?_
    intro H locs ls hP hD hS hl
    have Cx : px_Cx p room_1 s m #[Value.ref b] c 600000 7302250 0 342 D cA (st_ar q0 u.1 q56 v.1 o) fv (st_ro L xs) (fun q => s.heap.size ≤ q) L := ⟨hx, hb, hml, hown, C.2.2.2.2.1, by decide +kernel, by decide, hK.1, fun _ => hST _ (fun a ha => st_ar1000 ha), hfv⟩
    have hlv : lv_has ls (px_ml 342) (px_lvs fv (st_ar q0 u.1 q56 v.1 o) (lc_l (nI 0))) := by
      have h1 : px_lvs fv (st_ar q0 u.1 q56 v.1 o) (lc_l (nI 0)) = [(0, .ref (o 1000)), (1, .ref q0), (2, .ref q56), (3, .int (nI 0))] := rfl
      rw [h1, ho]
      exact lv_sub hl [3, 2, 1, 0] rfl
    exact W.widen (k := 600000) (n := 7302250) (by decide) (by decide) (law_18 hL Cx hb hr hlocks (fun _ h => h) (st_IV hu) rfl H locs ls hP hD hS (fun a ha => st_Mro ha) hlv st_wfp)
  exact G s.heap [] _ (fun k q h => by cases h) ⟨fun i j p q h => (by cases h), fun k q h => (by cases h)⟩ va_S.rf hl0
